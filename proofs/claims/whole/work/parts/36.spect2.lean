/-! ===== reading a text: what is kept; and the reference's cells ===== -/
theorem ep_ex {f : Int → Int} : ∀ {n : Nat}, zrep (epE f) n (-6) ≠ -6 → ∃ i, i < n ∧ zrep (epE f) i (-6) = -6 ∧ zxB (f i) (zsq f i) = false
  | 0, h => absurd rfl h
  | n + 1, h => by
    by_cases e : zrep (epE f) n (-6) = -6
    · refine ⟨n, by omega, e, ?_⟩
      cases hb : zxB (f n) (zsq f n)
      · rfl
      · exact absurd (ep_s e hb) h
    · obtain ⟨i, h1, h2, h3⟩ := ep_ex e
      exact ⟨i, by omega, h2, h3⟩
theorem ep_pre {f : Int → Int} {n : Nat} : ∀ j, j < epN f n → zxB (f j) (zsq f j) = true := by
  by_cases e : zrep (epE f) n (-6) = -6
  · rw [(ep_end e).2]
    exact ep_all e
  · obtain ⟨i, h1, h2, h3⟩ := ep_ex e
    rw [(ep_at h1 h2 h3).2]
    exact ep_all h2
theorem ep_good {f : Int → Int} {n : Nat} (h : epT f n = -6) : (∀ j, j < n → zxB (f j) (zsq f j) = true) ∧ (zsq f n).2.2.2 = 0 ∧ zxE (zsq f n) = true := by
  by_cases e : zrep (epE f) n (-6) = -6
  · refine ⟨ep_all e, ?_⟩
    rw [(ep_end e).1] at h
    by_cases q : (zsq f n).2.2.2 = 0 ∧ zxE (zsq f n) = true
    · exact q
    · rw [if_neg q] at h
      omega
  · obtain ⟨i, h1, h2, h3⟩ := ep_ex e
    have := (ep_at h1 h2 h3).1
    omega
theorem zSk_hw {Q : Mem} {h w : Int} (hS : zSk Q 8) (hh : 1 ≤ h ∧ h ≤ 12) (hw : 1 ≤ w ∧ w ≤ 12) : zSk (zup (zup Q 8 0 h) 8 1 w) 8 := by
  obtain ⟨h1, h2, h3, h4, h5, h6, h7⟩ := hS
  have e0 : (zup (zup Q 8 0 h) 8 1 w) 8 0 = h := by rw [zup_off (by decide), zup_at]
  have e1 : (zup (zup Q 8 0 h) 8 1 w) 8 1 = w := zup_at _ _ _ _
  have e2 : (zup (zup Q 8 0 h) 8 1 w) 8 2 = Q 8 2 := by rw [zup_off (by decide), zup_off (by decide)]
  refine ⟨by omega, by omega, by omega, by omega, by omega, fun i a b => ?_, fun i a b => ?_⟩
  · rw [zup_ne (by decide), zup_ne (by decide)]; exact h6 i a b
  · rw [zup_ne (by decide), zup_ne (by decide)]; exact h7 i a b
theorem zsq_E {f : Int → Int} {n : Nat} (h : epT f n = -6) : 0 ≤ (zsq f n).1 ∧ (zsq f n).1 ≤ 11 ∧ 1 ≤ (zsq f n).2.1 ∧ (zsq f n).2.1 ≤ 12 := by
  obtain ⟨h1, h2, h3⟩ := ep_good h
  have v := zsqV h1
  have l := zxV_L v
  have := of_decide_eq_true h3
  exact ⟨v.1, v.2.1, by omega, l.2.2⟩
theorem paX_P {M : Mem} (ho : M 8 2 = 0 ∨ M 8 2 = 1) : zSk (paX M) 8 ∧ paX M 8 2 = M 8 2 ∧ (∀ k : Nat, k ≠ 17 → k ≠ 26 → k ≠ 36 → k ≠ 8 → paX M k = M k) ∧ (∀ z : Int, z < 3 ∨ 6 < z → paX M 36 z = M 36 z) := by
  unfold paX
  by_cases e : epT (M 37) (M 36 1).toNat = -6
  · rw [if_pos e]
    have p := prX_P ho (ep_good e).1
    have q := zsq_E e
    rw [← p.2] at q
    obtain ⟨⟨p1, p2, p3, p4, p5, p6⟩, -⟩ := p
    refine ⟨zSk_hw p1 (by have := q.1; have := q.2.1; unfold zmX at *; dsimp only at *; omega) (by have := q.2.2; unfold zmX at *; dsimp only at *; omega), by rw [zup_off (by decide), zup_off (by decide)]; exact p4, fun k a b c d => by rw [zup_ne d, zup_ne d]; exact p5 k a b c d, fun z hz => by rw [zup_ne (by decide), zup_ne (by decide)]; exact p6 z hz⟩
  · rw [if_neg e]
    obtain ⟨⟨p1, p2, p3, p4, p5, p6⟩, -⟩ := prX_P ho (ep_pre (f := M 37) (n := (M 36 1).toNat))
    exact ⟨p1, p4, p5, p6⟩
theorem paX_XI {M : Mem} (h : XI M) : XI (paX M) := by
  obtain ⟨h1, h2, h3⟩ := h
  obtain ⟨p1, p2, p3, p4⟩ := paX_P (h2 8 (by decide)).2.2.2.2.1
  refine ⟨⟨fun s a b => ?_, fun m a b => ?_⟩, fun k hk => ?_, ?_⟩
  · rw [p3 29 (by decide) (by decide) (by decide) (by decide)]; exact h1.1 s a b
  · rw [p3 30 (by decide) (by decide) (by decide) (by decide)]; exact h1.2 m a b
  · by_cases e : k = 8
    · subst e; exact p1
    · exact zSk_congr (p3 k (by omega) (by omega) (by omega) e) (p3 (k + 9) (by omega) (by omega) (by omega) (by omega)) (p3 (k + 18) (by omega) (by omega) (by omega) (by omega)) (h2 k hk)
  · unfold HsX at *
    rw [p3 31 (by decide) (by decide) (by decide) (by decide), p3 32 (by decide) (by decide) (by decide) (by decide)]
    exact h3
/-! the reference -/
def zmR (M : Mem) : zTx := (M 38 18, M 38 20, M 38 19, M 38 21)
def zxW (s : zTx) : Bool := decide (s.2.2.2 = 0) && zxE s
def rwR (M : Mem) : Mem := zup (zup (zup M 38 19 (M 38 20)) 38 18 (M 38 18 + 1)) 38 20 0
def flR (M : Mem) (b : Bool) (n : Int) : Mem := fun k z => if k = 52 ∧ 12 * M 38 18 + M 38 20 ≤ z ∧ z < 12 * M 38 18 + M 38 20 + n then zbz b else if k = 38 ∧ z = 20 then M 38 20 + n else M k z
theorem flR_0 {M : Mem} {b : Bool} : M = flR M b 0 := by
  funext k z
  simp only [flR]
  grind
theorem flR_s {M : Mem} {b : Bool} (n : Nat) : zup (zup (flR M b n) 52 (12 * M 38 18 + (M 38 20 + n)) (zbz b)) 38 20 (M 38 20 + n + 1) = flR M b ((n + 1 : Nat) : Int) := by
  funext k z
  simp only [flR, zup]
  grind
theorem flR_f {M : Mem} {b : Bool} {n z : Int} (hz : z ≠ 20) : flR M b n 38 z = M 38 z := by
  simp only [flR]
  grind
theorem flR_20 {M : Mem} {b : Bool} {n : Int} : flR M b n 38 20 = M 38 20 + n := by
  simp only [flR]
  grind
theorem flR_off {M : Mem} {b : Bool} {n : Int} {k : Nat} (h1 : k ≠ 38) (h2 : k ≠ 52) : flR M b n k = M k := by
  funext z
  simp only [flR]
  grind
def rnR (M : Mem) (b : Bool) : Mem := zup (flR M b (zxN (zmR M))) 38 21 0
def dgR (M : Mem) (d : Int) : Mem := zup M 38 21 (10 * M 38 21 + d)
def zxR (x : Int) (M : Mem) : Mem := if x = 47 then rwR M else if x = 46 ∨ x = 35 then rnR M (decide (x = 35)) else dgR M (x - 48)
def prI (M0 M : Mem) : Prop := (∀ k : Nat, k ≠ 38 → k ≠ 52 → M k = M0 k) ∧ (∀ z : Int, z < 18 ∨ 21 < z → M 38 z = M0 38 z)
theorem prI_S {M0 M : Mem} {x : Int} (hb : zxB x (zmR M) = true) (h : prI M0 M) : prI M0 (zxR x M) ∧ zmR (zxR x M) = zxS x (zmR M) := by
  obtain ⟨h1, h2⟩ := h
  unfold zxR zxS
  by_cases e1 : x = 47
  · rw [if_pos e1, if_pos e1]
    refine ⟨⟨fun k a b => ?_, fun z hz => ?_⟩, ?_⟩
    · unfold rwR; rw [zup_ne a, zup_ne a, zup_ne a]; exact h1 k a b
    · unfold rwR; rw [zup_off (by omega), zup_off (by omega), zup_off (by omega)]; exact h2 z hz
    · have hn : M 38 21 = 0 := by
        unfold zxB at hb
        rw [if_pos e1] at hb
        unfold zxRB at hb
        simp only [Bool.and_eq_true, decide_eq_true_eq] at hb
        exact hb.1.1
      simp [zmR, rwR, zup, hn]
  · rw [if_neg e1, if_neg e1]
    by_cases e2 : x = 46 ∨ x = 35
    · rw [if_pos e2, if_pos e2]
      refine ⟨⟨fun k a b => ?_, fun z hz => ?_⟩, ?_⟩
      · unfold rnR; rw [zup_ne a, flR_off a b]; exact h1 k a b
      · unfold rnR; rw [zup_off (by omega), flR_f (by omega)]; exact h2 z hz
      · unfold rnR
        show (zup _ 38 21 0 38 18, zup _ 38 21 0 38 20, zup _ 38 21 0 38 19, zup _ 38 21 0 38 21) = _
        rw [zup_off (by decide), zup_off (by decide), zup_off (by decide), zup_at, flR_f (by decide), flR_20, flR_f (by decide)]
        rfl
    · rw [if_neg e2, if_neg e2]
      refine ⟨⟨fun k a b => ?_, fun z hz => ?_⟩, ?_⟩
      · unfold dgR; rw [zup_ne a]; exact h1 k a b
      · unfold dgR; rw [zup_off (by omega)]; exact h2 z hz
      · unfold dgR
        show (zup _ 38 21 _ 38 18, zup _ 38 21 _ 38 20, zup _ 38 21 _ 38 19, zup _ 38 21 _ 38 21) = _
        rw [zup_off (by decide), zup_off (by decide), zup_off (by decide), zup_at]
        rfl
def p0R (M : Mem) : Mem := zup (zup (zup (zup M 38 18 0) 38 19 0) 38 20 0) 38 21 0
def prR (M : Mem) (n : Nat) : Mem := zrep (fun (j : Nat) (Q : Mem) => zxR (M 42 j) Q) n (p0R M)
theorem p0R_P {M : Mem} : prI M (p0R M) ∧ zmR (p0R M) = (0, 0, 0, 0) := by
  refine ⟨⟨fun k a b => ?_, fun z hz => ?_⟩, ?_⟩
  · unfold p0R; rw [zup_ne a, zup_ne a, zup_ne a, zup_ne a]
  · unfold p0R; rw [zup_off (by omega), zup_off (by omega), zup_off (by omega), zup_off (by omega)]
  · simp [zmR, p0R, zup]
theorem prR_P {M : Mem} : ∀ {n : Nat}, (∀ j, j < n → zxB (M 42 j) (zsq (M 42) j) = true) → prI M (prR M n) ∧ zmR (prR M n) = zsq (M 42) n
  | 0, _ => p0R_P
  | n + 1, h => by
    have ih := prR_P (n := n) (fun j hj => h j (by omega))
    have hb := h n (by omega)
    rw [← ih.2] at hb
    have := prI_S hb ih.1
    refine ⟨this.1, ?_⟩
    show zmR (zxR (M 42 n) (prR M n)) = zxS (M 42 n) (zsq (M 42) n)
    rw [this.2, ih.2]
def erM (M : Mem) : Mem := prR M (epN (M 42) (M 38 6).toNat)
theorem erM_P {M : Mem} : prI M (erM M) := (prR_P (ep_pre (f := M 42) (n := (M 38 6).toNat))).1
theorem prI_RI {M0 M : Mem} (h : prI M0 M) (hR : RI M0) : RI M := by
  obtain ⟨h1, h2⟩ := h
  obtain ⟨a, b, c, d⟩ := hR
  refine ⟨TbR_congr (h1 _ (by decide) (by decide)) (h1 _ (by decide) (by decide)) a, by rw [h1 39 (by decide) (by decide)]; exact b, by rw [h1 39 (by decide) (by decide)]; exact c, ?_⟩
  unfold HsR at *
  rw [h2 2 (by omega)]
  exact d
theorem zup_self {M : Mem} {k : Nat} {z : Int} : zup M k z (M k z) = M := by
  funext a b
  simp only [zup]
  grind
/-- what the reference reads into its map -/
def rcR (B : Mem) (n : Int) : Mem := fun k z => if k = 39 ∧ 3 ≤ z ∧ z < 3 + n then B 52 (12 * ((z - 3) / B 38 19) + (z - 3) % B 38 19) else B k z
theorem rcR_0 {B : Mem} : B = rcR B 0 := by
  funext k z
  simp only [rcR]
  grind
theorem rcR_off {B : Mem} {n : Int} {k : Nat} (h : k ≠ 39) : rcR B n k = B k := by
  funext z
  simp only [rcR]
  grind
theorem rcR_s {B : Mem} (n : Nat) : zup (rcR B n) 39 (3 + (n : Int)) (B 52 (12 * ((n : Int) / B 38 19) + (n : Int) % B 38 19)) = rcR B ((n + 1 : Nat) : Int) := by
  funext k z
  simp only [rcR, zup]
  by_cases h : k = 39 ∧ z = 3 + (n : Int)
  · rw [if_pos h, if_pos (by omega), show z - 3 = (n : Int) by omega]
  · rw [if_neg h]
    by_cases q : k = 39 ∧ 3 ≤ z ∧ z < 3 + (n : Int)
    · rw [if_pos q, if_pos (by omega)]
    · rw [if_neg q, if_neg (by omega)]
theorem rcR_lo {B : Mem} {n z : Int} (h : z < 3) : rcR B n 39 z = B 39 z := by
  simp only [rcR]
  grind
