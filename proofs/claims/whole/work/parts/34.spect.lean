/-! ===== the text: where its reading stands (row, column, columns of the first row, number) ===== -/
abbrev zTx : Type := Int × Int × Int × Int
def zxL (s : zTx) : Int := (if s.1 = 0 then 12 else s.2.2.1) - s.2.1
def zxE (s : zTx) : Bool := decide (0 < s.2.1 ∧ (s.1 = 0 ∨ s.2.1 = s.2.2.1))
def zxN (s : zTx) : Int := if s.2.2.2 = 0 then 1 else s.2.2.2
def zxRB (s : zTx) : Bool := decide (s.2.2.2 = 0) && zxE s && decide (s.1 < 11)
def zxRR (s : zTx) : Bool := decide (s.2.2.2 ≠ 1 ∧ zxN s ≤ zxL s)
def zxD (d : Int) (s : zTx) : Bool := decide (s.2.2.2 ≤ 1 ∧ ¬ (s.2.2.2 = 0 ∧ d = 0) ∧ (if 10 * s.2.2.2 + d = 1 then 10 else 10 * s.2.2.2 + d) ≤ zxL s)
def zxB (x : Int) (s : zTx) : Bool := if x = 47 then zxRB s else if x = 46 ∨ x = 35 then zxRR s else decide (48 ≤ x ∧ x ≤ 57) && zxD (x - 48) s
def zxS (x : Int) (s : zTx) : zTx := if x = 47 then (s.1 + 1, 0, s.2.1, 0) else if x = 46 ∨ x = 35 then (s.1, s.2.1 + zxN s, s.2.2.1, 0) else (s.1, s.2.1, s.2.2.1, 10 * s.2.2.2 + (x - 48))
def zxV (s : zTx) : Prop := 0 ≤ s.1 ∧ s.1 ≤ 11 ∧ 0 ≤ s.2.1 ∧ 0 ≤ zxL s ∧ 0 ≤ s.2.2.1 ∧ s.2.2.1 ≤ 12 ∧ 0 ≤ s.2.2.2 ∧ s.2.2.2 ≤ 12
theorem zxV_L {s : zTx} (h : zxV s) : 0 ≤ zxL s ∧ zxL s ≤ 12 ∧ s.2.1 ≤ 12 := by
  obtain ⟨h1, h2, h3, h4, h5, h6, h7, h8⟩ := h
  unfold zxL at *
  split at h4 <;> omega
theorem zxN_bd {s : zTx} (h : zxV s) : 1 ≤ zxN s ∧ zxN s ≤ 12 := by
  obtain ⟨h1, h2, h3, h4, h5, h6, h7, h8⟩ := h
  unfold zxN
  split <;> omega
theorem zxV_S {x : Int} {s : zTx} (h : zxV s) (hb : zxB x s = true) : zxV (zxS x s) := by
  have hl := zxV_L h
  have hn := zxN_bd h
  obtain ⟨h1, h2, h3, h4, h5, h6, h7, h8⟩ := h
  obtain ⟨a, b, c, d⟩ := s
  unfold zxB at hb
  unfold zxS
  dsimp only at *
  by_cases e1 : x = 47
  · rw [if_pos e1] at hb ⊢
    unfold zxRB zxE at hb
    simp only [Bool.and_eq_true, decide_eq_true_eq] at hb
    unfold zxV zxL
    dsimp only at *
    rw [if_neg (by omega)]
    omega
  · rw [if_neg e1] at hb ⊢
    by_cases e2 : x = 46 ∨ x = 35
    · rw [if_pos e2] at hb ⊢
      unfold zxRR at hb
      simp only [decide_eq_true_eq] at hb
      unfold zxV zxL
      unfold zxL at hb hl
      dsimp only at *
      split at hb <;> omega
    · rw [if_neg e2] at hb ⊢
      unfold zxD at hb
      simp only [Bool.and_eq_true, decide_eq_true_eq] at hb
      unfold zxV zxL
      unfold zxL at hb hl h4
      dsimp only at *
      split at hb <;> split at hb <;> omega
def zsq (f : Int → Int) (n : Nat) : zTx := zrep (fun (j : Nat) (s : zTx) => zxS (f j) s) n (0, 0, 0, 0)
def epE (f : Int → Int) (i : Nat) (x : Int) : Int := if x ≠ -6 then x else if zxB (f i) (zsq f i) = true then -6 else i
def epT (f : Int → Int) (n : Nat) : Int := if zrep (epE f) n (-6) ≠ -6 then zrep (epE f) n (-6) else if (zsq f n).2.2.2 = 0 ∧ zxE (zsq f n) = true then -6 else n
def epN (f : Int → Int) (n : Nat) : Nat := if epT f n = -6 then n else (epT f n).toNat
theorem ep_all {f : Int → Int} : ∀ {n : Nat}, zrep (epE f) n (-6) = -6 → ∀ j, j < n → zxB (f j) (zsq f j) = true
  | 0, _, j, hj => absurd hj (Nat.not_lt_zero j)
  | n + 1, h, j, hj => by
    rw [zrep_succ] at h
    by_cases e : zrep (epE f) n (-6) = -6
    · by_cases q : j = n
      · subst q
        rw [e] at h
        unfold epE at h
        rw [if_neg (by decide)] at h
        by_cases z : zxB (f j) (zsq f j) = true
        · exact z
        · rw [if_neg z] at h
          omega
      · exact ep_all e j (by omega)
    · have z : epE f n (zrep (epE f) n (-6)) = zrep (epE f) n (-6) := if_pos e
      rw [z] at h
      exact absurd h e
theorem ep_s {f : Int → Int} {n : Nat} (h : zrep (epE f) n (-6) = -6) (hb : zxB (f n) (zsq f n) = true) : zrep (epE f) (n + 1) (-6) = -6 := by
  rw [zrep_succ, h]
  unfold epE
  rw [if_neg (by decide), if_pos hb]
theorem ep_at {f : Int → Int} {i n : Nat} (hi : i < n) (h : zrep (epE f) i (-6) = -6) (hb : zxB (f i) (zsq f i) = false) : epT f n = i ∧ epN f n = i := by
  have e1 : zrep (epE f) (i + 1) (-6) = i := by
    rw [zrep_succ, h]
    unfold epE
    rw [if_neg (by decide), if_neg (by rw [hb]; decide)]
  have e2 : zrep (epE f) n (-6) = i := zrep_stop (m := i + 1) hi e1 (fun j => by unfold epE; rw [if_pos (by omega)])
  have e3 : epT f n = i := by
    unfold epT
    rw [if_pos (by omega), e2]
  refine ⟨e3, ?_⟩
  unfold epN
  rw [if_neg (by omega), e3]
  omega
theorem ep_end {f : Int → Int} {n : Nat} (h : zrep (epE f) n (-6) = -6) : epT f n = (if (zsq f n).2.2.2 = 0 ∧ zxE (zsq f n) = true then -6 else (n : Int)) ∧ epN f n = n := by
  have e : epT f n = (if (zsq f n).2.2.2 = 0 ∧ zxE (zsq f n) = true then -6 else (n : Int)) := by
    unfold epT
    rw [if_neg (by omega)]
  refine ⟨e, ?_⟩
  unfold epN
  split
  · rfl
  · rename_i q
    rw [e] at q ⊢
    split
    · rename_i z; rw [if_pos z] at q; exact absurd rfl q
    · omega
theorem zsqV {f : Int → Int} : ∀ {n : Nat}, (∀ j, j < n → zxB (f j) (zsq f j) = true) → zxV (zsq f n)
  | 0, _ => by
    show zxV (0, 0, 0, 0)
    unfold zxV zxL
    decide
  | n + 1, h => by
    show zxV (zxS (f n) (zsq f n))
    exact zxV_S (zsqV (fun j hj => h j (by omega))) (h n (by omega))
/-! the class's cells -/
def zmX (M : Mem) : zTx := (M 36 3, M 36 4, M 36 5, M 36 6)
def rwX (M : Mem) : Mem := zup (zup (zup M 36 5 (M 36 4)) 36 3 (M 36 3 + 1)) 36 4 0
def runX (M : Mem) (b : Bool) (n : Nat) : Mem := zrep (fun (t : Nat) (Q : Mem) => putK Q 8 (M 36 3) (M 36 4 + t) b) n M
def rnX (M : Mem) (b : Bool) : Mem := zup (zup (runX M b (zxN (zmX M)).toNat) 36 4 (M 36 4 + zxN (zmX M))) 36 6 0
def dgX (M : Mem) (d : Int) : Mem := zup M 36 6 (10 * M 36 6 + d)
def zxX (x : Int) (M : Mem) : Mem := if x = 47 then rwX M else if x = 46 ∨ x = 35 then rnX M (decide (x = 35)) else dgX M (x - 48)
theorem runX_P {M : Mem} {b : Bool} (h : zSk M 8) (n : Nat) : zSk (runX M b n) 8 ∧ (∀ k : Nat, k ≠ 17 → k ≠ 26 → runX M b n k = M k) :=
  zrep_inv (P := fun Q => zSk Q 8 ∧ (∀ k : Nat, k ≠ 17 → k ≠ 26 → Q k = M k)) ⟨h, fun _ _ _ => rfl⟩ n (fun _ _ Q hQ => ⟨zSk_putK hQ.1, fun k a c => (putK_off (by omega) (by omega)).trans (hQ.2 k a c)⟩)
/-- what holds while the class reads -/
def pxI (M0 M : Mem) : Prop := zSk M 8 ∧ M 8 0 = 12 ∧ M 8 1 = 12 ∧ M 8 2 = M0 8 2 ∧ (∀ k : Nat, k ≠ 17 → k ≠ 26 → k ≠ 36 → k ≠ 8 → M k = M0 k) ∧ (∀ z : Int, z < 3 ∨ 6 < z → M 36 z = M0 36 z)
theorem zSk8 {M M' : Mem} (h1 : M' 8 = M 8) (h2 : M' 17 = M 17) (h3 : M' 26 = M 26) (h : zSk M 8) : zSk M' 8 := zSk_congr h1 h2 h3 h
theorem pxI_S {M0 M : Mem} {x : Int} (hb : zxB x (zmX M) = true) (h : pxI M0 M) : pxI M0 (zxX x M) ∧ zmX (zxX x M) = zxS x (zmX M) := by
  obtain ⟨h1, h2, h3, h4, h5, h6⟩ := h
  unfold zxX zxS
  by_cases e1 : x = 47
  · rw [if_pos e1, if_pos e1]
    have o : ∀ k : Nat, k ≠ 36 → rwX M k = M k := fun k q => by unfold rwX; rw [zup_ne q, zup_ne q, zup_ne q]
    refine ⟨⟨zSk8 (o _ (by decide)) (o _ (by decide)) (o _ (by decide)) h1, by rw [o _ (by decide)]; exact h2, by rw [o _ (by decide)]; exact h3, by rw [o _ (by decide)]; exact h4, fun k a b c d => by rw [o k c]; exact h5 k a b c d, fun z hz => ?_⟩, ?_⟩
    · unfold rwX
      rw [zup_off (by omega), zup_off (by omega), zup_off (by omega)]
      exact h6 z hz
    · have hn : M 36 6 = 0 := by
        unfold zxB at hb
        rw [if_pos e1] at hb
        unfold zxRB at hb
        simp only [Bool.and_eq_true, decide_eq_true_eq] at hb
        exact hb.1.1
      simp [zmX, rwX, zup, hn]
  · rw [if_neg e1, if_neg e1]
    by_cases e2 : x = 46 ∨ x = 35
    · rw [if_pos e2, if_pos e2]
      have p := runX_P (b := decide (x = 35)) h1 (zxN (zmX M)).toNat
      have o : ∀ k : Nat, k ≠ 36 → k ≠ 17 → k ≠ 26 → rnX M (decide (x = 35)) k = M k := fun k q a b => by unfold rnX; rw [zup_ne q, zup_ne q]; exact p.2 k a b
      have o2 : ∀ k : Nat, k ≠ 36 → rnX M (decide (x = 35)) k = runX M (decide (x = 35)) (zxN (zmX M)).toNat k := fun k q => by unfold rnX; rw [zup_ne q, zup_ne q]
      refine ⟨⟨zSk8 (o2 _ (by decide)) (o2 _ (by decide)) (o2 _ (by decide)) p.1, by rw [o _ (by decide) (by decide) (by decide)]; exact h2, by rw [o _ (by decide) (by decide) (by decide)]; exact h3, by rw [o _ (by decide) (by decide) (by decide)]; exact h4, fun k a b c d => by rw [o k c a b]; exact h5 k a b c d, fun z hz => ?_⟩, ?_⟩
      · unfold rnX
        rw [zup_off (by omega), zup_off (by omega), p.2 36 (by decide) (by decide)]
        exact h6 z hz
      · unfold rnX
        show (zup _ 36 6 0 36 3, zup _ 36 6 0 36 4, zup _ 36 6 0 36 5, zup _ 36 6 0 36 6) = _
        rw [zup_off (by decide), zup_off (by decide), zup_off (by decide), zup_at, zup_off (by decide), zup_at, zup_off (by decide), p.2 36 (by decide) (by decide)]
        rfl
    · rw [if_neg e2, if_neg e2]
      have o : ∀ k : Nat, k ≠ 36 → dgX M (x - 48) k = M k := fun k q => by unfold dgX; rw [zup_ne q]
      refine ⟨⟨zSk8 (o _ (by decide)) (o _ (by decide)) (o _ (by decide)) h1, by rw [o _ (by decide)]; exact h2, by rw [o _ (by decide)]; exact h3, by rw [o _ (by decide)]; exact h4, fun k a b c d => by rw [o k c]; exact h5 k a b c d, fun z hz => ?_⟩, ?_⟩
      · unfold dgX
        rw [zup_off (by omega)]
        exact h6 z hz
      · unfold dgX
        show (zup _ 36 6 _ 36 3, zup _ 36 6 _ 36 4, zup _ 36 6 _ 36 5, zup _ 36 6 _ 36 6) = _
        rw [zup_off (by decide), zup_off (by decide), zup_off (by decide), zup_at]
        rfl
/-- the class's cells when the reading begins, and after n characters -/
def pr0 (M : Mem) : Mem := zup (zup (zup (zup (watM M 8 12 12 144) 36 3 0) 36 4 0) 36 5 0) 36 6 0
def prX (M : Mem) (n : Nat) : Mem := zrep (fun (j : Nat) (Q : Mem) => zxX (M 37 j) Q) n (pr0 M)
theorem pr0_off {M : Mem} {k : Nat} (h1 : k ≠ 8) (h2 : k ≠ 17) (h3 : k ≠ 26) (h4 : k ≠ 36) : pr0 M k = M k := by
  unfold pr0
  rw [zup_ne h4, zup_ne h4, zup_ne h4, zup_ne h4]
  exact watM_off h1 h2 h3
theorem pr0_P {M : Mem} (ho : M 8 2 = 0 ∨ M 8 2 = 1) : pxI M (pr0 M) ∧ zmX (pr0 M) = (0, 0, 0, 0) := by
  have o : ∀ k : Nat, k ≠ 36 → pr0 M k = watM M 8 12 12 144 k := fun k q => by unfold pr0; rw [zup_ne q, zup_ne q, zup_ne q, zup_ne q]
  refine ⟨⟨zSk8 (o _ (by decide)) (o _ (by decide)) (o _ (by decide)) (zSk_watM (by decide) (by decide) ho), by rw [o _ (by decide)]; rfl, by rw [o _ (by decide)]; rfl, by rw [o _ (by decide)]; rfl, fun k a b c d => pr0_off d a b c, fun z hz => ?_⟩, ?_⟩
  · unfold pr0
    rw [zup_off (by omega), zup_off (by omega), zup_off (by omega), zup_off (by omega), watM_off (by decide) (by decide) (by decide)]
  · unfold pr0
    show (zup _ 36 6 0 36 3, zup _ 36 6 0 36 4, zup _ 36 6 0 36 5, zup _ 36 6 0 36 6) = _
    rw [zup_off (by decide), zup_off (by decide), zup_off (by decide), zup_at, zup_off (by decide), zup_off (by decide), zup_at, zup_off (by decide), zup_at, zup_at]
theorem prX_P {M : Mem} (ho : M 8 2 = 0 ∨ M 8 2 = 1) : ∀ {n : Nat}, (∀ j, j < n → zxB (M 37 j) (zsq (M 37) j) = true) → pxI M (prX M n) ∧ zmX (prX M n) = zsq (M 37) n
  | 0, _ => pr0_P ho
  | n + 1, h => by
    have ih := prX_P ho (n := n) (fun j hj => h j (by omega))
    have hb := h n (by omega)
    rw [← ih.2] at hb
    have := pxI_S hb ih.1
    refine ⟨this.1, ?_⟩
    show zmX (zxX (M 37 n) (prX M n)) = zxS (M 37 n) (zsq (M 37) n)
    rw [this.2, ih.2]
def paX (M : Mem) : Mem := if epT (M 37) (M 36 1).toNat = -6 then zup (zup (prX M (M 36 1).toNat) 8 0 (prX M (M 36 1).toNat 36 3 + 1)) 8 1 (prX M (M 36 1).toNat 36 4) else prX M (epN (M 37) (M 36 1).toNat)
