/-! ===== p40: the queue's numbers are distances ===== -/
def bq (s : zBs) (j : Nat) : Int := s.1 (s.2.1 j).1 (s.2.1 j).2
def p4A (t : TS) (e : Nat) (s : zBs) : Prop :=
  (∀ j k : Nat, j ≤ k → k < s.2.2.1 → bq s j ≤ bq s k) ∧
  (∀ j : Nat, 0 < j → j < s.2.2.1 → ∃ a : Nat, a < s.2.2.1 ∧ ∃ k : Nat, k < 8 / e ∧ (s.2.1 j).1 = (s.2.1 a).1 + zrow ((e * k : Nat) : Int) ∧ (s.2.1 j).2 = (s.2.1 a).2 + zcol ((e * k : Nat) : Int) ∧ bq s j = bq s a + 1) ∧
  (∀ r c : Int, s.1 r c ≠ -1 → ∃ j : Nat, j < s.2.2.1 ∧ s.2.1 j = (r, c)) ∧
  (s.2.2.2 = true ↔ ∃ j : Nat, j < s.2.2.1 ∧ zbEd t (s.2.1 j).1 (s.2.1 j).2 = true)
theorem p4A_R {t : TS} {l : Bool} {m0 : Nat} {e i n : Nat} {s : zBs} {p : Int × Int} {m : Int} (hI : zbI t l m0 s) (hA : p4A t e s) (hn : n < 8 / e) (hi : i < s.2.2.1) (hp : s.2.1 i = p) (hm : s.1 p.1 p.2 = m) (hb : ∀ j : Nat, j < s.2.2.1 → bq s j ≤ m + 1) :
    p4A t e (zbR t (p.1 + zrow ((e * n : Nat) : Int)) (p.2 + zcol ((e * n : Nat) : Int)) (m + 1) s) ∧ ∀ j : Nat, j < (zbR t (p.1 + zrow ((e * n : Nat) : Int)) (p.2 + zcol ((e * n : Nat) : Int)) (m + 1) s).2.2.1 → bq (zbR t (p.1 + zrow ((e * n : Nat) : Int)) (p.2 + zcol ((e * n : Nat) : Int)) (m + 1) s) j ≤ m + 1 := by
  obtain ⟨a1, a2, a3, a4⟩ := hA
  unfold zbR
  by_cases hin : inT t (p.1 + zrow ((e * n : Nat) : Int)) (p.2 + zcol ((e * n : Nat) : Int)) = true ∧ s.1 (p.1 + zrow ((e * n : Nat) : Int)) (p.2 + zcol ((e * n : Nat) : Int)) = -1
  · rw [if_pos hin]
    generalize hr : p.1 + zrow ((e * n : Nat) : Int) = r at hin ⊢
    generalize hc : p.2 + zcol ((e * n : Nat) : Int) = c at hin ⊢
    have hne : ∀ j : Nat, j < s.2.2.1 → ¬ ((s.2.1 j).1 = r ∧ (s.2.1 j).2 = c) := by
      intro j hj h
      have g := (hI.2.1 j hj).2.2.1
      rw [h.1, h.2, hin.2] at g
      omega
    have ho : ∀ j : Nat, j < s.2.2.1 → bq (fun r' c' => if r' = r ∧ c' = c then m + 1 else s.1 r' c', fun n => if n = s.2.2.1 then (r, c) else s.2.1 n, s.2.2.1 + 1, s.2.2.2 || zbEd t r c) j = bq s j := by
      intro j hj
      unfold bq
      show (if (if j = s.2.2.1 then (r, c) else s.2.1 j).1 = r ∧ (if j = s.2.2.1 then (r, c) else s.2.1 j).2 = c then m + 1 else s.1 (if j = s.2.2.1 then (r, c) else s.2.1 j).1 (if j = s.2.2.1 then (r, c) else s.2.1 j).2) = _
      rw [if_neg (by omega : ¬ j = s.2.2.1), if_neg (hne j hj)]
    have hN : bq (fun r' c' => if r' = r ∧ c' = c then m + 1 else s.1 r' c', fun n => if n = s.2.2.1 then (r, c) else s.2.1 n, s.2.2.1 + 1, s.2.2.2 || zbEd t r c) s.2.2.1 = m + 1 := by
      unfold bq
      show (if (if s.2.2.1 = s.2.2.1 then (r, c) else s.2.1 s.2.2.1).1 = r ∧ (if s.2.2.1 = s.2.2.1 then (r, c) else s.2.1 s.2.2.1).2 = c then m + 1 else _) = _
      rw [if_pos rfl, if_pos ⟨rfl, rfl⟩]
    refine ⟨⟨fun j k hjk hk => ?_, fun j h0 hj => ?_, fun r' c' h => ?_, ?_⟩, fun j hj => ?_⟩
    · have hk : k < s.2.2.1 + 1 := hk
      by_cases hk2 : k < s.2.2.1
      · rw [ho j (by omega), ho k hk2]
        exact a1 j k hjk hk2
      · have : k = s.2.2.1 := by omega
        subst this
        rw [hN]
        by_cases hj2 : j < s.2.2.1
        · rw [ho j hj2]; exact hb j hj2
        · have : j = s.2.2.1 := by omega
          subst this
          rw [hN]
          exact Int.le_refl _
    · have hj : j < s.2.2.1 + 1 := hj
      by_cases hj2 : j < s.2.2.1
      · obtain ⟨a, h1, k, h2, h3, h4, h5⟩ := a2 j h0 hj2
        refine ⟨a, Nat.lt_succ_of_lt h1, k, h2, ?_, ?_, ?_⟩
        · show (if j = s.2.2.1 then (r, c) else s.2.1 j).1 = (if a = s.2.2.1 then (r, c) else s.2.1 a).1 + _
          rw [if_neg (by omega : ¬ j = s.2.2.1), if_neg (by omega : ¬ a = s.2.2.1)]
          exact h3
        · show (if j = s.2.2.1 then (r, c) else s.2.1 j).2 = (if a = s.2.2.1 then (r, c) else s.2.1 a).2 + _
          rw [if_neg (by omega : ¬ j = s.2.2.1), if_neg (by omega : ¬ a = s.2.2.1)]
          exact h4
        · rw [ho j hj2, ho a h1]
          exact h5
      · have : j = s.2.2.1 := by omega
        subst this
        refine ⟨i, Nat.lt_succ_of_lt hi, n, hn, ?_, ?_, ?_⟩
        · show (if s.2.2.1 = s.2.2.1 then (r, c) else s.2.1 s.2.2.1).1 = (if i = s.2.2.1 then (r, c) else s.2.1 i).1 + _
          rw [if_pos rfl, if_neg (by omega : ¬ i = s.2.2.1), hp]
          exact hr.symm
        · show (if s.2.2.1 = s.2.2.1 then (r, c) else s.2.1 s.2.2.1).2 = (if i = s.2.2.1 then (r, c) else s.2.1 i).2 + _
          rw [if_pos rfl, if_neg (by omega : ¬ i = s.2.2.1), hp]
          exact hc.symm
        · rw [hN, ho i hi]
          unfold bq
          rw [hp, hm]
    · have h : (if r' = r ∧ c' = c then m + 1 else s.1 r' c') ≠ -1 := h
      by_cases hrc : r' = r ∧ c' = c
      · refine ⟨s.2.2.1, Nat.lt_succ_self _, ?_⟩
        show (if s.2.2.1 = s.2.2.1 then (r, c) else s.2.1 s.2.2.1) = (r', c')
        rw [if_pos rfl, hrc.1, hrc.2]
      · rw [if_neg hrc] at h
        obtain ⟨j, hj, e⟩ := a3 r' c' h
        refine ⟨j, Nat.lt_succ_of_lt hj, ?_⟩
        show (if j = s.2.2.1 then (r, c) else s.2.1 j) = (r', c')
        rw [if_neg (by omega : ¬ j = s.2.2.1)]
        exact e
    · show (s.2.2.2 || zbEd t r c) = true ↔ ∃ j : Nat, j < s.2.2.1 + 1 ∧ zbEd t (if j = s.2.2.1 then (r, c) else s.2.1 j).1 (if j = s.2.2.1 then (r, c) else s.2.1 j).2 = true
      rw [Bool.or_eq_true, a4]
      constructor
      · rintro (⟨j, hj, h⟩ | h)
        · refine ⟨j, Nat.lt_succ_of_lt hj, ?_⟩
          rw [if_neg (by omega : ¬ j = s.2.2.1)]
          exact h
        · refine ⟨s.2.2.1, Nat.lt_succ_self _, ?_⟩
          rw [if_pos rfl]
          exact h
      · rintro ⟨j, hj, h⟩
        by_cases hj2 : j < s.2.2.1
        · rw [if_neg (by omega : ¬ j = s.2.2.1)] at h
          exact Or.inl ⟨j, hj2, h⟩
        · rw [if_pos (by omega : j = s.2.2.1)] at h
          exact Or.inr h
    · have hj : j < s.2.2.1 + 1 := hj
      by_cases hj2 : j < s.2.2.1
      · rw [ho j hj2]; exact hb j hj2
      · have : j = s.2.2.1 := by omega
        subst this
        rw [hN]
        exact Int.le_refl _
  · rw [if_neg hin]
    exact ⟨⟨a1, a2, a3, a4⟩, hb⟩
theorem p4A_W {t : TS} {l : Bool} {m0 : Nat} {e i : Nat} {s : zBs} (ht : tH t ≤ 12 ∧ tW t ≤ 12) (hI : zbI t l m0 s) (hA : p4A t e s) (hi : i < s.2.2.1) (hb : ∀ j : Nat, j < s.2.2.1 → bq s j ≤ bq s i + 1) : ∀ n : Nat, n ≤ 8 / e → p4A t e (zbW t l e i n s) ∧ ∀ j : Nat, j < (zbW t l e i n s).2.2.1 → bq (zbW t l e i n s) j ≤ bq s i + 1
  | 0, _ => ⟨hA, hb⟩
  | n + 1, hn => by
    have h := p4A_W ht hI hA hi hb n (by omega)
    obtain ⟨hI', hK⟩ := zbW_P (e := e) (i := i) ht hi hI n
    have hq : (zbW t l e i n s).2.1 i = s.2.1 i := hK.2.1 i hi
    have hv : (zbW t l e i n s).1 (s.2.1 i).1 (s.2.1 i).2 = s.1 (s.2.1 i).1 (s.2.1 i).2 := hK.2.2 _ _ (by have := (hI.2.1 i hi).2.2.1; omega)
    show p4A t e (zbE t l (s.2.1 i).1 (s.2.1 i).2 (s.1 (s.2.1 i).1 (s.2.1 i).2 + 1) ((e * n : Nat) : Int) (zbW t l e i n s)) ∧ ∀ j : Nat, j < (zbE t l (s.2.1 i).1 (s.2.1 i).2 (s.1 (s.2.1 i).1 (s.2.1 i).2 + 1) ((e * n : Nat) : Int) (zbW t l e i n s)).2.2.1 → bq (zbE t l (s.2.1 i).1 (s.2.1 i).2 (s.1 (s.2.1 i).1 (s.2.1 i).2 + 1) ((e * n : Nat) : Int) (zbW t l e i n s)) j ≤ bq s i + 1
    unfold zbE
    split
    · exact p4A_R (m := s.1 (s.2.1 i).1 (s.2.1 i).2) hI' h.1 (by omega) (Nat.lt_of_lt_of_le hi hK.1) hq hv h.2
    · exact h
def p4B (t : TS) (e n : Nat) (s : zBs) : Prop := p4A t e s ∧ (n < s.2.2.1 → ∀ j : Nat, j < s.2.2.1 → bq s j ≤ bq s n + 1)
theorem p4B_G {t : TS} {l : Bool} {m0 : Nat} {e n : Nat} {s : zBs} (ht : tH t ≤ 12 ∧ tW t ≤ 12) (hI : zbI t l m0 s) (h : p4B t e n s) : p4B t e (n + 1) (zbG t l e n s) ∧ (n < s.2.2.1 → ∀ j : Nat, j < (zbG t l e n s).2.2.1 → bq (zbG t l e n s) j ≤ bq s n + 1) := by
  unfold zbG
  by_cases hn : n < s.2.2.1
  · rw [if_pos hn]
    have hW := p4A_W ht hI h.1 hn (h.2 hn) (8 / e) (Nat.le_refl _)
    have hP := zbW_P (e := e) (i := n) ht hn hI (8 / e)
    have e1 : zbV t l e n s = zbW t l e n (8 / e) s := rfl
    rw [e1]
    refine ⟨⟨hW.1, fun hn1 j hj => ?_⟩, fun _ => hW.2⟩
    have h1 := hW.2 j hj
    have h2 := hW.1.1 n (n + 1) (Nat.le_succ n) hn1
    have h3 : bq (zbW t l e n (8 / e) s) n = bq s n := by
      unfold bq
      rw [hP.2.2.1 n hn]
      exact hP.2.2.2 _ _ (by have := (hI.2.1 n hn).2.2.1; omega)
    omega
  · rw [if_neg hn]
    exact ⟨⟨h.1, fun h' => absurd h' (by omega)⟩, fun h' => absurd h' hn⟩
theorem p4B_Y {t : TS} {r c : Int} {e : Nat} (ht : tH t ≤ 12 ∧ tW t ≤ 12) (hi : inT t r c = true) : ∀ n : Nat, p4B t e n (zbY t (laT t r c) e n (zb1 t r c))
  | 0 => by
    refine ⟨⟨fun j k hjk hk => ?_, fun j h0 hj => ?_, fun r' c' h => ?_, ?_⟩, fun _ j hj => ?_⟩
    · have hk : k < 1 := hk
      have e1 : j = k := by omega
      rw [e1]
      exact Int.le_refl _
    · have hj : j < 1 := hj
      omega
    · have h : (if r' = r ∧ c' = c then (0 : Int) else -1) ≠ -1 := h
      refine ⟨0, Nat.zero_lt_one, ?_⟩
      by_cases hrc : r' = r ∧ c' = c
      · rw [hrc.1, hrc.2]; rfl
      · rw [if_neg hrc] at h; exact absurd rfl h
    · show zbEd t r c = true ↔ ∃ j : Nat, j < 1 ∧ zbEd t r c = true
      exact ⟨fun h => ⟨0, Nat.zero_lt_one, h⟩, fun ⟨_, _, h⟩ => h⟩
    · have hj : j < 1 := hj
      have e1 : j = 0 := by omega
      rw [e1]
      show bq (zb1 t r c) 0 ≤ bq (zb1 t r c) 0 + 1
      omega
  | n + 1 => (p4B_G ht (zbY_P (e := e) ht (zb1_I ht hi) n).1 (p4B_Y ht hi n)).1
/-- distances from a tile over tiles of its kind: -1 where none -/
noncomputable def dT (t : TS) (r c : Int) (e : Nat) (r' c' : Int) : Int := (zFr t r c e).1 r' c'
theorem dT_bd {t : TS} {r c : Int} {e : Nat} (ht : tH t ≤ 12 ∧ tW t ≤ 12) (hi : inT t r c = true) (r' c' : Int) : -1 ≤ dT t r c e r' c' ∧ dT t r c e r' c' < 144 := by
  have h := (zbY_P (e := e) ht (zb1_I ht hi) 144).1.2.2 r' c'
  unfold dT zFr
  exact h
theorem dT_in {t : TS} {r c : Int} {e : Nat} (ht : tH t ≤ 12 ∧ tW t ≤ 12) (hi : inT t r c = true) {r' c' : Int} (h : dT t r c e r' c' ≠ -1) : inT t r' c' = true ∧ laT t r' c' = laT t r c := (zFr_q ht hi).2.1 r' c' h
theorem zbY_add {t : TS} {l : Bool} {e : Nat} {s : zBs} (n : Nat) : ∀ m : Nat, zbY t l e (n + m) s = zrep (fun i => zbG t l e (n + i)) m (zbY t l e n s)
  | 0 => rfl
  | m + 1 => by
    show zbG t l e (n + m) (zbY t l e (n + m) s) = zbG t l e (n + m) _
    rw [zbY_add n m]
theorem zbY_K {t : TS} {l : Bool} {m0 : Nat} {e : Nat} {s : zBs} (ht : tH t ≤ 12 ∧ tW t ≤ 12) (h : zbI t l m0 s) (n : Nat) : ∀ m : Nat, zbK (zbY t l e n s) (zbY t l e (n + m) s)
  | 0 => zbK_rfl
  | m + 1 => zbK_tr (zbY_K ht h n m) (zbG_P ht (zbY_P (e := e) ht h (n + m)).1).2
theorem p4B_F {t : TS} {r c : Int} {e : Nat} (ht : tH t ≤ 12 ∧ tW t ≤ 12) (hi : inT t r c = true) : p4B t e 144 (zFr t r c e) := by
  unfold zFr
  exact p4B_Y ht hi 144
theorem zFr_K {t : TS} {r c : Int} {e : Nat} (ht : tH t ≤ 12 ∧ tW t ≤ 12) (hi : inT t r c = true) {n : Nat} (hn : n ≤ 144) : zbK (zbY t (laT t r c) e n (zb1 t r c)) (zFr t r c e) := by
  have h := zbY_K (e := e) ht (zb1_I ht hi) n (144 - n)
  rw [show n + (144 - n) = 144 by omega] at h
  unfold zFr
  exact h
theorem dT_0 {t : TS} {r c : Int} {e : Nat} (ht : tH t ≤ 12 ∧ tW t ≤ 12) (hi : inT t r c = true) : dT t r c e r c = 0 ∧ 0 < (zFr t r c e).2.2.1 ∧ (zFr t r c e).2.1 0 = (r, c) := by
  have h : zbK (zb1 t r c) (zFr t r c e) := zFr_K (e := e) ht hi (n := 0) (by omega)
  have h1 : (zb1 t r c).1 r c = 0 := if_pos ⟨rfl, rfl⟩
  refine ⟨(h.2.2 r c (by show (zb1 t r c).1 r c ≠ -1; omega)).trans h1, Nat.lt_of_lt_of_le Nat.zero_lt_one h.1, h.2.1 0 Nat.zero_lt_one⟩
theorem dT_pred {t : TS} {r c : Int} {e : Nat} (ht : tH t ≤ 12 ∧ tW t ≤ 12) (hi : inT t r c = true) {r' c' : Int} (h : 0 < dT t r c e r' c') : ∃ k : Nat, k < 8 / e ∧ dT t r c e (r' - zrow ((e * k : Nat) : Int)) (c' - zcol ((e * k : Nat) : Int)) = dT t r c e r' c' - 1 := by
  have hB := p4B_F (e := e) ht hi
  obtain ⟨j, hj, e1⟩ := hB.1.2.2.1 r' c' (by unfold dT at h; omega)
  have e1' := e1
  have h0 : 0 < j := by
    rcases Nat.eq_zero_or_pos j with h0 | h0
    · exfalso
      subst h0
      have h2 := dT_0 (e := e) ht hi
      rw [h2.2.2] at e1'
      have e2 : r = r' := congrArg Prod.fst e1'
      have e3 : c = c' := congrArg Prod.snd e1'
      rw [← e2, ← e3, h2.1] at h
      omega
    · exact h0
  obtain ⟨a, ha, k, hk, h3, h4, h5⟩ := hB.1.2.1 j h0 hj
  refine ⟨k, hk, ?_⟩
  have h3' : r' = ((zFr t r c e).2.1 a).1 + zrow ((e * k : Nat) : Int) := (congrArg Prod.fst e1').symm.trans h3
  have h4' : c' = ((zFr t r c e).2.1 a).2 + zcol ((e * k : Nat) : Int) := (congrArg Prod.snd e1').symm.trans h4
  have h5' : (zFr t r c e).1 ((zFr t r c e).2.1 j).1 ((zFr t r c e).2.1 j).2 = (zFr t r c e).1 ((zFr t r c e).2.1 a).1 ((zFr t r c e).2.1 a).2 + 1 := h5
  rw [e1'] at h5'
  dsimp only at h5'
  unfold dT
  rw [show r' - zrow ((e * k : Nat) : Int) = ((zFr t r c e).2.1 a).1 by omega, show c' - zcol ((e * k : Nat) : Int) = ((zFr t r c e).2.1 a).2 by omega]
  omega
theorem dT_next {t : TS} {r c : Int} {e : Nat} (ht : tH t ≤ 12 ∧ tW t ≤ 12) (hi : inT t r c = true) {r' c' : Int} (h : dT t r c e r' c' ≠ -1) {k : Nat} (hk : k < 8 / e) (hin : inT t (r' + zrow ((e * k : Nat) : Int)) (c' + zcol ((e * k : Nat) : Int)) = true) (hl : laT t (r' + zrow ((e * k : Nat) : Int)) (c' + zcol ((e * k : Nat) : Int)) = laT t r c) :
    dT t r c e (r' + zrow ((e * k : Nat) : Int)) (c' + zcol ((e * k : Nat) : Int)) ≠ -1 ∧ dT t r c e (r' + zrow ((e * k : Nat) : Int)) (c' + zcol ((e * k : Nat) : Int)) ≤ dT t r c e r' c' + 1 := by
  obtain ⟨i, hi1, hi2⟩ := ((zFr_q (e := e) ht hi).1 r' c').mp h
  have hI := zb1_I (r := r) (c := c) ht hi
  obtain ⟨N, hN1, hN2, hN3, hN4⟩ := zbY_N (e := e) ht hI
  have hN4' : zFr t r c e = zbY t (laT t r c) e N (zb1 t r c) := by
    unfold zFr
    exact hN4
  have hiN : i < N := by
    rw [hN4'] at hi1
    omega
  have hin2 := hN2 i hiN
  have hKi := zFr_K (e := e) ht hi (n := i) (by omega)
  have hqi : (zbY t (laT t r c) e i (zb1 t r c)).2.1 i = (r', c') := (hKi.2.1 i hin2).symm.trans hi2
  have hIi := (zbY_P (e := e) ht hI i).1
  have hKs := zFr_K (e := e) ht hi (n := i + 1) (by omega)
  have hIs := (zbY_P (e := e) ht hI (i + 1)).1
  have hG := (p4B_G ht hIi (p4B_Y (e := e) ht hi i)).2 hin2
  have hPr := zbY_Pr (e := e) ht hI (i + 1) i (Nat.lt_succ_self i) (Nat.lt_of_lt_of_le hin2 (zbG_P (e := e) (i := i) ht hIi).2.1) k hk
  have hqs : (zbY t (laT t r c) e (i + 1) (zb1 t r c)).2.1 i = (r', c') := ((zbG_P (e := e) (i := i) ht hIi).2.2.1 i hin2).trans hqi
  rw [hqs] at hPr
  have hg := hPr hin hl
  have hA := (p4B_Y (e := e) ht hi (i + 1)).1.2.2.1 _ _ hg
  obtain ⟨j, hj, hqj⟩ := hA
  have hbd := hG j hj
  have h1 : (zFr t r c e).1 (r' + zrow ((e * k : Nat) : Int)) (c' + zcol ((e * k : Nat) : Int)) = (zbY t (laT t r c) e (i + 1) (zb1 t r c)).1 (r' + zrow ((e * k : Nat) : Int)) (c' + zcol ((e * k : Nat) : Int)) := hKs.2.2 _ _ hg
  have h2 : bq (zbY t (laT t r c) e (i + 1) (zb1 t r c)) j = (zbY t (laT t r c) e (i + 1) (zb1 t r c)).1 (r' + zrow ((e * k : Nat) : Int)) (c' + zcol ((e * k : Nat) : Int)) := by
    unfold bq
    rw [hqj]
  have h3 : bq (zbY t (laT t r c) e i (zb1 t r c)) i = (zFr t r c e).1 r' c' := by
    unfold bq
    rw [hqi]
    refine (hKi.2.2 r' c' ?_).symm
    have := (hIi.2.1 i hin2).2.2.1
    rw [hqi] at this
    have this : 0 ≤ (zbY t (laT t r c) e i (zb1 t r c)).1 r' c' := this
    omega
  have hbd : bq (zbY t (laT t r c) e (i + 1) (zb1 t r c)) j ≤ bq (zbY t (laT t r c) e i (zb1 t r c)) i + 1 := hbd
  unfold dT
  rw [h1]
  refine ⟨hg, ?_⟩
  omega
theorem dT_edge {t : TS} {r c : Int} {e : Nat} (ht : tH t ≤ 12 ∧ tW t ≤ 12) (hi : inT t r c = true) : (zFr t r c e).2.2.2 = true ↔ ∃ r' c' : Int, dT t r c e r' c' ≠ -1 ∧ zbEd t r' c' = true := by
  have hB := (p4B_F (e := e) ht hi).1.2.2.2
  rw [hB]
  constructor
  · rintro ⟨j, hj, h⟩
    refine ⟨((zFr t r c e).2.1 j).1, ((zFr t r c e).2.1 j).2, ?_, h⟩
    unfold dT
    exact ((zFr_q (e := e) ht hi).1 _ _).mpr ⟨j, hj, (Prod.eta _).symm⟩
  · rintro ⟨r', c', h1, h2⟩
    obtain ⟨j, hj, e1⟩ := ((zFr_q (e := e) ht hi).1 r' c').mp h1
    exact ⟨j, hj, by rw [e1]; exact h2⟩
