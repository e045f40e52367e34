/-! ===== sums over the tiles; a set of places that take given kinds ===== -/
noncomputable def zcl (P : Prop) : Bool := @decide P (Classical.propDecidable P)
theorem zcl_t {P : Prop} : zcl P = true ↔ P := by
  unfold zcl
  exact @decide_eq_true_iff P (Classical.propDecidable P)
theorem zcl_f {P : Prop} (h : ¬ P) : zcl P = false := by
  cases e : zcl P
  · rfl
  · exact absurd (zcl_t.mp e) h
theorem zcl_y {P : Prop} (h : P) : zcl P = true := zcl_t.mpr h
theorem zcl_c {P Q : Prop} (h : P ↔ Q) : zcl P = zcl Q := by rw [propext h]
def zS1 (g : Nat → Int) (n : Nat) : Int := zrep (fun (i : Nat) (y : Int) => y + g i) n 0
theorem zS1_s (g : Nat → Int) (n : Nat) : zS1 g (n + 1) = zS1 g n + g n := rfl
theorem zS1_from (g : Nat → Int) : ∀ (n : Nat) (a : Int), zrep (fun (i : Nat) (y : Int) => y + g i) n a = a + zS1 g n
  | 0, a => (Int.add_zero a).symm
  | n + 1, a => by
    show zrep (fun (i : Nat) (y : Int) => y + g i) n a + g n = a + zS1 g (n + 1)
    rw [zS1_from g n a, zS1_s]
    omega
theorem zS1_congr {g h : Nat → Int} : ∀ {n : Nat}, (∀ i, i < n → g i = h i) → zS1 g n = zS1 h n
  | 0, _ => rfl
  | n + 1, e => by rw [zS1_s, zS1_s, zS1_congr (fun i hi => e i (Nat.lt_succ_of_lt hi)), e n (Nat.lt_succ_self n)]
theorem zS1_add (g h : Nat → Int) : ∀ n : Nat, zS1 (fun i => g i + h i) n = zS1 g n + zS1 h n
  | 0 => rfl
  | n + 1 => by rw [zS1_s, zS1_s, zS1_s, zS1_add g h n]; omega
theorem zS1_neg (g : Nat → Int) : ∀ n : Nat, zS1 (fun i => -(g i)) n = -(zS1 g n)
  | 0 => rfl
  | n + 1 => by rw [zS1_s, zS1_s, zS1_neg g n]; omega
theorem zS1_zero : ∀ n : Nat, zS1 (fun _ => 0) n = 0
  | 0 => rfl
  | n + 1 => by rw [zS1_s, zS1_zero n]; rfl
theorem zS1_pt (p x : Int) : ∀ n : Nat, zS1 (fun i => if (i : Int) = p then x else 0) n = if 0 ≤ p ∧ p < n then x else 0
  | 0 => by rw [if_neg (by omega)]; rfl
  | n + 1 => by
    rw [zS1_s, zS1_pt p x n]
    by_cases e : (n : Int) = p
    · rw [if_pos e, if_neg (by omega), if_pos (by omega)]; omega
    · rw [if_neg e]
      by_cases h : 0 ≤ p ∧ p < n
      · rw [if_pos h, if_pos (by omega)]; omega
      · rw [if_neg h, if_neg (by omega)]; rfl
def zS2 (t : TS) (g : Int → Int → Int) : Int := z2 t (fun r c n => n + g r c) 0
theorem zS2_eq (t : TS) (g : Int → Int → Int) : zS2 t g = zS1 (fun r => zS1 (fun c => g r c) (tW t).toNat) (tH t).toNat := by
  unfold zS2 z2
  unfold zS1
  refine zrep_congr 0 (fun i hi x => ?_)
  exact zS1_from (fun c => g i c) _ x
theorem zS2_congr {t : TS} {g h : Int → Int → Int} (e : ∀ r c : Int, 0 ≤ r → r < tH t → 0 ≤ c → c < tW t → g r c = h r c) : zS2 t g = zS2 t h := by
  rw [zS2_eq, zS2_eq]
  exact zS1_congr (fun i hi => zS1_congr (fun j hj => e i j (by omega) (by omega) (by omega) (by omega)))
theorem zS2_add (t : TS) (g h : Int → Int → Int) : zS2 t (fun r c => g r c + h r c) = zS2 t g + zS2 t h := by
  rw [zS2_eq, zS2_eq, zS2_eq, ← zS1_add]
  exact zS1_congr (fun i hi => zS1_add _ _ _)
theorem zS2_neg (t : TS) (g : Int → Int → Int) : zS2 t (fun r c => -(g r c)) = -(zS2 t g) := by
  rw [zS2_eq, zS2_eq, ← zS1_neg]
  exact zS1_congr (fun i hi => zS1_neg _ _)
theorem zS2_zero (t : TS) : zS2 t (fun _ _ => 0) = 0 := by
  rw [zS2_eq]
  exact (zS1_congr (fun i hi => zS1_zero _)).trans (zS1_zero _)
theorem zS2_pt (t : TS) (p q x : Int) : zS2 t (fun r c => if r = p ∧ c = q then x else 0) = if inT t p q = true then x else 0 := by
  rw [zS2_eq]
  have e : ∀ i : Nat, zS1 (fun c => if (i : Int) = p ∧ (c : Int) = q then x else 0) (tW t).toNat = if (i : Int) = p then (if 0 ≤ q ∧ q < (tW t).toNat then x else 0) else 0 := by
    intro i
    by_cases h : (i : Int) = p
    · rw [if_pos h, ← zS1_pt]
      exact zS1_congr (fun j hj => by
        by_cases k : (j : Int) = q
        · rw [if_pos k, if_pos ⟨h, k⟩]
        · rw [if_neg k, if_neg (fun z => k z.2)])
    · rw [if_neg h]
      exact (zS1_congr (h := fun _ => 0) (fun j hj => if_neg (fun z : (i : Int) = p ∧ (j : Int) = q => h z.1))).trans (zS1_zero _)
  rw [zS1_congr (fun i hi => e i), zS1_pt]
  unfold inT
  by_cases h1 : 0 ≤ p ∧ p < tH t
  · by_cases h2 : 0 ≤ q ∧ q < tW t
    · rw [if_pos (by omega), if_pos (by omega), if_pos (decide_eq_true (by omega))]
    · rw [if_pos (by omega), if_neg (by omega), if_neg (fun z => by have := of_decide_eq_true z; omega)]
  · rw [if_neg (by omega), if_neg (fun z => by have := of_decide_eq_true z; omega)]
/-- the places of P take the kinds v -/
noncomputable def tsV (t : TS) (P : Int → Int → Prop) (v : Int → Int → Bool) : TS := (tH t, tW t, tO t, fun r c => if (inT t r c && zcl (P r c)) = true then v r c else t.2.2.2.1 r c, fun r c => if (inT t r c && (zcl (P r c) && (laT t r c != v r c))) = true then -1 else t.2.2.2.2 r c)
/-- how many are another kind then -/
noncomputable def tsVc (t : TS) (P : Int → Int → Prop) (v : Int → Int → Bool) : Int := zS2 t (fun r c => if (zcl (P r c) && (laT t r c != v r c)) = true then 1 else 0)
theorem tsV_congr {t : TS} {P P' : Int → Int → Prop} {v v' : Int → Int → Bool} (h : ∀ r c : Int, inT t r c = true → (P r c ↔ P' r c)) (hv : ∀ r c : Int, inT t r c = true → P r c → v r c = v' r c) : tsV t P v = tsV t P' v' ∧ tsVc t P v = tsVc t P' v' := by
  have hp : ∀ r c : Int, inT t r c = true → zcl (P r c) = zcl (P' r c) := fun r c hi => zcl_c (h r c hi)
  constructor
  · refine ts_ext rfl rfl rfl (fun r c => ?_) (fun r c => ?_)
    · show (if (inT t r c && zcl (P r c)) = true then v r c else t.2.2.2.1 r c) = (if (inT t r c && zcl (P' r c)) = true then v' r c else t.2.2.2.1 r c)
      cases hi : inT t r c
      · rfl
      · rw [← hp r c hi]
        cases hP : zcl (P r c)
        · rfl
        · exact hv r c hi (zcl_t.mp hP)
    · show (if (inT t r c && (zcl (P r c) && (laT t r c != v r c))) = true then -1 else t.2.2.2.2 r c) = (if (inT t r c && (zcl (P' r c) && (laT t r c != v' r c))) = true then -1 else t.2.2.2.2 r c)
      cases hi : inT t r c
      · rfl
      · rw [← hp r c hi]
        cases hP : zcl (P r c)
        · rfl
        · rw [hv r c hi (zcl_t.mp hP)]
  · unfold tsVc
    refine zS2_congr (fun r c a b d e => ?_)
    have hi : inT t r c = true := decide_eq_true ⟨a, b, d, e⟩
    rw [← hp r c hi]
    cases hP : zcl (P r c)
    · rfl
    · rw [hv r c hi (zcl_t.mp hP)]
theorem laT_V {t : TS} {P : Int → Int → Prop} {v : Int → Int → Bool} {r c : Int} : laT (tsV t P v) r c = if (inT t r c && zcl (P r c)) = true then v r c else laT t r c := by
  show (if inT t r c then (if (inT t r c && zcl (P r c)) = true then v r c else t.2.2.2.1 r c) else tO t) = (if (inT t r c && zcl (P r c)) = true then v r c else (if inT t r c then t.2.2.2.1 r c else tO t))
  cases inT t r c <;> rfl
theorem tsV_no {t : TS} {v : Int → Int → Bool} : tsV t (fun _ _ => False) v = t ∧ tsVc t (fun _ _ => False) v = 0 := by
  constructor
  · refine ts_ext rfl rfl rfl (fun r c => ?_) (fun r c => ?_)
    · show (if (inT t r c && zcl False) = true then v r c else t.2.2.2.1 r c) = t.2.2.2.1 r c
      rw [zcl_f (fun h => h), Bool.and_false]
      rfl
    · show (if (inT t r c && (zcl False && (laT t r c != v r c))) = true then -1 else t.2.2.2.2 r c) = t.2.2.2.2 r c
      rw [zcl_f (fun h => h), Bool.false_and, Bool.and_false]
      rfl
  · unfold tsVc
    refine (zS2_congr (fun r c _ _ _ _ => ?_)).trans (zS2_zero t)
    show (if (zcl False && (laT t r c != v r c)) = true then (1 : Int) else 0) = 0
    rw [zcl_f (fun h => h)]
    rfl
/-- one more place -/
theorem tsV_s {t : TS} {P : Int → Int → Prop} {v : Int → Int → Bool} {p q : Int} :
    tsS (tsV t P v) p q (v p q) = tsV t (fun r c => P r c ∨ (r = p ∧ c = q)) v
    ∧ tsVc t (fun r c => P r c ∨ (r = p ∧ c = q)) v = tsVc t P v + (if (inT t p q && (laT (tsV t P v) p q != v p q)) = true then 1 else 0) := by
  constructor
  · unfold tsS
    by_cases h : inT (tsV t P v) p q = true ∧ laT (tsV t P v) p q ≠ v p q
    · rw [if_pos h]
      obtain ⟨hi, hl⟩ := h
      have hi' : inT t p q = true := hi
      rw [laT_V] at hl
      have hnP : zcl (P p q) = false := by
        cases e : zcl (P p q)
        · rfl
        · rw [hi', e] at hl
          exact absurd rfl hl
      rw [hi', hnP] at hl
      have hl' : laT t p q ≠ v p q := hl
      refine ts_ext rfl rfl rfl (fun r c => ?_) (fun r c => ?_)
      · show (if r = p ∧ c = q then v p q else (if (inT t r c && zcl (P r c)) = true then v r c else t.2.2.2.1 r c)) = (if (inT t r c && zcl (P r c ∨ (r = p ∧ c = q))) = true then v r c else t.2.2.2.1 r c)
        by_cases e : r = p ∧ c = q
        · rw [if_pos e, zcl_y (Or.inr e), e.1, e.2, hi']
          rfl
        · rw [if_neg e, zcl_c (show (P r c ∨ (r = p ∧ c = q)) ↔ P r c from ⟨fun z => z.resolve_right e, Or.inl⟩)]
      · show (if r = p ∧ c = q then -1 else (if (inT t r c && (zcl (P r c) && (laT t r c != v r c))) = true then -1 else t.2.2.2.2 r c)) = (if (inT t r c && (zcl (P r c ∨ (r = p ∧ c = q)) && (laT t r c != v r c))) = true then -1 else t.2.2.2.2 r c)
        by_cases e : r = p ∧ c = q
        · rw [if_pos e, zcl_y (Or.inr e), e.1, e.2, hi', bne_iff_ne.mpr hl']
          rfl
        · rw [if_neg e, zcl_c (show (P r c ∨ (r = p ∧ c = q)) ↔ P r c from ⟨fun z => z.resolve_right e, Or.inl⟩)]
    · rw [if_neg h]
      have hh : inT t p q = true → zcl (P p q) = true ∨ laT t p q = v p q := fun hi => by
        by_cases hP : zcl (P p q) = true
        · exact Or.inl hP
        · refine Or.inr ?_
          have hf : zcl (P p q) = false := by simpa using hP
          have := Classical.not_and_iff_not_or_not.mp h
          rcases this with k | k
          · exact absurd hi k
          · have k2 := Classical.not_not.mp k
            rw [laT_V, hf, Bool.and_false] at k2
            exact k2
      refine ts_ext rfl rfl rfl (fun r c => ?_) (fun r c => ?_)
      · show (if (inT t r c && zcl (P r c)) = true then v r c else t.2.2.2.1 r c) = (if (inT t r c && zcl (P r c ∨ (r = p ∧ c = q))) = true then v r c else t.2.2.2.1 r c)
        by_cases e : r = p ∧ c = q
        · obtain ⟨rfl, rfl⟩ := e
          rw [zcl_y (Or.inr (⟨rfl, rfl⟩ : r = r ∧ c = c))]
          cases hi : inT t r c
          · rfl
          · rcases hh hi with k | k
            · rw [k]
            · cases hP : zcl (P r c)
              · show t.2.2.2.1 r c = v r c
                rw [← k]
                unfold laT
                rw [if_pos hi]
              · rfl
        · rw [zcl_c (show (P r c ∨ (r = p ∧ c = q)) ↔ P r c from ⟨fun z => z.resolve_right e, Or.inl⟩)]
      · show (if (inT t r c && (zcl (P r c) && (laT t r c != v r c))) = true then -1 else t.2.2.2.2 r c) = (if (inT t r c && (zcl (P r c ∨ (r = p ∧ c = q)) && (laT t r c != v r c))) = true then -1 else t.2.2.2.2 r c)
        by_cases e : r = p ∧ c = q
        · obtain ⟨rfl, rfl⟩ := e
          rw [zcl_y (Or.inr (⟨rfl, rfl⟩ : r = r ∧ c = c))]
          cases hi : inT t r c
          · rfl
          · rcases hh hi with k | k
            · rw [k]
            · rw [show (laT t r c != v r c) = false by rw [k]; simp, Bool.and_false, Bool.and_false]
              rfl
        · rw [zcl_c (show (P r c ∨ (r = p ∧ c = q)) ↔ P r c from ⟨fun z => z.resolve_right e, Or.inl⟩)]
  · have e : tsVc t (fun r c => P r c ∨ (r = p ∧ c = q)) v = zS2 t (fun r c => (if (zcl (P r c) && (laT t r c != v r c)) = true then 1 else 0) + (if r = p ∧ c = q then (if (laT (tsV t P v) p q != v p q) = true then 1 else 0) else 0)) := by
      unfold tsVc
      refine zS2_congr (fun r c a b d f => ?_)
      have hi : inT t r c = true := decide_eq_true ⟨a, b, d, f⟩
      by_cases e : r = p ∧ c = q
      · obtain ⟨rfl, rfl⟩ := e
        rw [zcl_y (Or.inr (⟨rfl, rfl⟩ : r = r ∧ c = c)), if_pos (⟨rfl, rfl⟩ : r = r ∧ c = c), laT_V, hi]
        cases zcl (P r c)
        · show (if (true && (laT t r c != v r c)) = true then (1 : Int) else 0) = (if (false && (laT t r c != v r c)) = true then 1 else 0) + (if (laT t r c != v r c) = true then 1 else 0)
          cases (laT t r c != v r c) <;> rfl
        · simp
      · rw [zcl_c (show (P r c ∨ (r = p ∧ c = q)) ↔ P r c from ⟨fun z => z.resolve_right e, Or.inl⟩), if_neg e, Int.add_zero]
    rw [e, zS2_add, zS2_pt]
    unfold tsVc
    congr 1
    cases inT t p q <;> rfl
/-- a row of steps, each with its places -/
theorem zVrep {α : Type} {f : Nat → α → α} {VS : α → (Int → Int → Prop) → Prop} {A : Nat → Int → Int → Prop} {N : Nat} (h : ∀ i, i < N → ∀ s P, VS s P → VS (f i s) (fun r c => P r c ∨ A i r c)) {s : α} {P : Int → Int → Prop} (h0 : VS s P) : ∀ n : Nat, n ≤ N → VS (zrep f n s) (fun r c => P r c ∨ ∃ i, i < n ∧ A i r c)
  | 0, _ => by
    rw [show (fun r c => P r c ∨ ∃ i, i < 0 ∧ A i r c) = P from funext fun r => funext fun c => propext ⟨fun z => z.elim id (fun ⟨i, hi, _⟩ => absurd hi (Nat.not_lt_zero i)), Or.inl⟩]
    exact h0
  | n + 1, hn => by
    have ih := h n (by omega) _ _ (zVrep h h0 n (by omega))
    rw [show (fun r c => P r c ∨ ∃ i, i < n + 1 ∧ A i r c) = (fun r c => (P r c ∨ ∃ i, i < n ∧ A i r c) ∨ A n r c) from funext fun r => funext fun c => propext ⟨fun z => by
      rcases z with z | ⟨i, hi, z⟩
      · exact Or.inl (Or.inl z)
      · by_cases e : i = n
        · exact Or.inr (e ▸ z)
        · exact Or.inl (Or.inr ⟨i, by omega, z⟩), fun z => by
      rcases z with (z | ⟨i, hi, z⟩) | z
      · exact Or.inl z
      · exact Or.inr ⟨i, by omega, z⟩
      · exact Or.inr ⟨n, by omega, z⟩⟩]
    exact ih
