/-! ===== fill: both do the same ===== -/
theorem zS1_cut {g : Nat → Int} {m : Nat} : ∀ q : Nat, (∀ i, m ≤ i → g i = 0) → zS1 g (m + q) = zS1 g m
  | 0, _ => rfl
  | q + 1, h => by
    show zS1 g (m + q) + g (m + q) = zS1 g m
    rw [zS1_cut q h, h (m + q) (by omega), Int.add_zero]
theorem zbM_int (s : zBs) : ∀ n : Nat, ((zbM s n : Nat) : Int) = zS1 (fun k => if s.1 ((k / 12 : Nat) : Int) ((k % 12 : Nat) : Int) = -1 then 0 else 1) n
  | 0 => rfl
  | n + 1 => by
    show ((zbM s n + (if s.1 ((n / 12 : Nat) : Int) ((n % 12 : Nat) : Int) = -1 then 0 else 1) : Nat) : Int) = _
    rw [Int.natCast_add, zbM_int s n, zS1_s]
    congr 1
    split <;> rfl
theorem zbM_grid {t : TS} {s : zBs} (ht : 0 ≤ tH t ∧ tH t ≤ 12 ∧ 0 ≤ tW t ∧ tW t ≤ 12) (h : ∀ r c : Int, s.1 r c ≠ -1 → inT t r c = true) : ((zbM s 144 : Nat) : Int) = zS2 t (fun r c => if s.1 r c = -1 then 0 else 1) := by
  rw [zbM_int, zS2_eq]
  have e := zrep_flat (fun (r c : Nat) (y : Int) => y + (if s.1 (r : Int) (c : Int) = -1 then 0 else 1)) 12 (by decide) (0 : Int) 12
  have e1 : zS1 (fun k => if s.1 ((k / 12 : Nat) : Int) ((k % 12 : Nat) : Int) = -1 then 0 else 1) 144 = zrep (fun (r : Nat) x => zrep (fun (c : Nat) y => y + (if s.1 (r : Int) (c : Int) = -1 then 0 else 1)) 12 x) 12 0 := e.symm
  have e2 : zrep (fun (r : Nat) x => zrep (fun (c : Nat) y => y + (if s.1 (r : Int) (c : Int) = -1 then 0 else 1)) 12 x) 12 0 = zS1 (fun r => zS1 (fun c => if s.1 (r : Int) (c : Int) = -1 then 0 else 1) 12) 12 := by
    unfold zS1
    exact zrep_congr 0 (fun i hi x => zS1_from _ 12 x)
  have out : ∀ r c : Int, ¬ (0 ≤ r ∧ r < tH t ∧ 0 ≤ c ∧ c < tW t) → s.1 r c = -1 := fun r c hn => Classical.not_not.mp (fun z => hn (of_decide_eq_true (h r c z)))
  rw [e1, e2]
  have e3 : ∀ r : Nat, zS1 (fun c => if s.1 (r : Int) (c : Int) = -1 then 0 else 1) 12 = zS1 (fun c => if s.1 (r : Int) (c : Int) = -1 then 0 else 1) (tW t).toNat := fun r => by
    have := zS1_cut (g := fun c => if s.1 (r : Int) (c : Int) = -1 then 0 else 1) (m := (tW t).toNat) (12 - (tW t).toNat) (fun i hi => if_pos (out _ _ (by omega)))
    rw [show (tW t).toNat + (12 - (tW t).toNat) = 12 by omega] at this
    exact this
  rw [zS1_congr (fun r _ => e3 r)]
  have := zS1_cut (g := fun r : Nat => zS1 (fun c => if s.1 (r : Int) (c : Int) = -1 then 0 else 1) (tW t).toNat) (m := (tH t).toNat) (12 - (tH t).toNat) (fun i hi => (zS1_congr (h := fun _ => 0) (fun j _ => if_pos (out _ _ (by omega)))).trans (zS1_zero _))
  rw [show (tH t).toNat + (12 - (tH t).toNat) = 12 by omega] at this
  exact this
theorem tsV_same {t : TS} {P : Int → Int → Prop} {v : Int → Int → Bool} (h : ∀ r c : Int, inT t r c = true → P r c → laT t r c = v r c) : tsV t P v = t ∧ tsVc t P v = 0 := by
  have hb : ∀ r c : Int, inT t r c = true → (zcl (P r c) && (laT t r c != v r c)) = false := fun r c hi => by
    cases e : zcl (P r c)
    · rfl
    · rw [h r c hi (zcl_t.mp e)]
      simp
  constructor
  · refine ts_ext rfl rfl rfl (fun r c => ?_) (fun r c => ?_)
    · show (if (inT t r c && zcl (P r c)) = true then v r c else t.2.2.2.1 r c) = t.2.2.2.1 r c
      cases hi : inT t r c
      · rfl
      · cases e : zcl (P r c)
        · rfl
        · show v r c = t.2.2.2.1 r c
          rw [← h r c hi (zcl_t.mp e)]
          unfold laT
          rw [if_pos hi]
    · show (if (inT t r c && (zcl (P r c) && (laT t r c != v r c))) = true then -1 else t.2.2.2.2 r c) = t.2.2.2.2 r c
      cases hi : inT t r c
      · rfl
      · rw [hb r c hi]
        rfl
  · refine (zS2_congr (fun r c a b d e => ?_)).trans (zS2_zero t)
    rw [hb r c (decide_eq_true ⟨a, b, d, e⟩)]
    rfl
def VXm (t : TS) (v : Int → Int → Bool) (M0 : Mem) (M : Mem) (P : Int → Int → Prop) : Prop := tsX M 0 = tsV t P v ∧ zSk M 0 ∧ ∀ k : Nat, k ≠ 9 → k ≠ 18 → M k = M0 k
theorem VXm_s {t : TS} {v : Int → Int → Bool} {M0 M : Mem} {P : Int → Int → Prop} {p q : Int} (h : VXm t v M0 M P) : VXm t v M0 (putK M 0 p q (v p q)) (fun r c => P r c ∨ (r = p ∧ c = q)) := by
  have g := VX_s (s := (M, tsVc t P v)) (p := p) (q := q) (show VX t v M0 (M, tsVc t P v) P from ⟨h.1, rfl, h.2.1, h.2.2⟩)
  exact ⟨g.1, g.2.2.1, g.2.2.2⟩
theorem fill_X {t : TS} {G : Mem} {b : Bool} (ht : tsX G 0 = t) (hS : zSk G 0) : ∃ P : Int → Int → Prop, VXm t (fun _ _ => b) G (zrep (fiO G b (tW t).toNat) (tH t).toNat G) P ∧ ∀ r c : Int, inT t r c = true → (P r c ↔ G 35 (r * 12 + c) ≠ -1) := by
  have inner : ∀ i : Nat, i < (tH t).toNat → ∀ (M : Mem) (P : Int → Int → Prop), VXm t (fun _ _ => b) G M P → VXm t (fun _ _ => b) G (fiO G b (tW t).toNat i M) (fun r c => P r c ∨ ∃ j : Nat, j < (tW t).toNat ∧ (G 35 ((i : Int) * 12 + j) ≠ -1 ∧ r = i ∧ c = j)) := fun i hi M P h =>
    zVrep (N := (tW t).toNat) (f := fiI G b i) (VS := VXm t (fun _ _ => b) G) (A := fun (j : Nat) r c => G 35 ((i : Int) * 12 + j) ≠ -1 ∧ r = i ∧ c = j) (fun j hj M P h => by
      by_cases hd : G 35 ((i : Int) * 12 + j) ≠ -1
      · unfold fiI
        rw [if_pos hd]
        have g := VXm_s (p := i) (q := j) h
        rw [show (fun r c => P r c ∨ (G 35 ((i : Int) * 12 + j) ≠ -1 ∧ r = i ∧ c = j)) = (fun r c => P r c ∨ (r = i ∧ c = j)) from funext fun r => funext fun c => propext ⟨fun z => z.imp id And.right, fun z => z.imp id (fun y => ⟨hd, y⟩)⟩]
        exact g
      · unfold fiI
        rw [if_neg hd]
        rw [show (fun r c => P r c ∨ (G 35 ((i : Int) * 12 + j) ≠ -1 ∧ r = i ∧ c = j)) = P from funext fun r => funext fun c => propext ⟨fun z => z.elim id (fun y => absurd y.1 hd), Or.inl⟩]
        exact h) h _ (Nat.le_refl _)
  have h0 : VXm t (fun _ _ => b) G G (fun _ _ => False) := ⟨by rw [tsV_no.1]; exact ht, hS, fun _ _ _ => rfl⟩
  refine ⟨_, zVrep (N := (tH t).toNat) (f := fiO G b (tW t).toNat) (VS := VXm t (fun _ _ => b) G) inner h0 (tH t).toNat (Nat.le_refl _), fun r c hi => ⟨fun z => ?_, fun z => ?_⟩⟩
  · rcases z with z | ⟨i, i1, j, j1, z, rfl, rfl⟩
    · exact absurd z id
    · exact z
  · have hb := of_decide_eq_true hi
    refine Or.inr ⟨r.toNat, by omega, c.toNat, by omega, ?_, by omega, by omega⟩
    rw [show ((r.toNat : Nat) : Int) = r by omega, show ((c.toNat : Nat) : Int) = c by omega]
    exact z
