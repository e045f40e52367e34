/-! ===== brush, smooth: both make the same of the map ===== -/
def VX (t : TS) (v : Int → Int → Bool) (M0 : Mem) (s : Mem × Int) (P : Int → Int → Prop) : Prop := tsX s.1 0 = tsV t P v ∧ s.2 = tsVc t P v ∧ zSk s.1 0 ∧ ∀ k : Nat, k ≠ 9 → k ≠ 18 → s.1 k = M0 k
theorem VX_0 {t : TS} {v : Int → Int → Bool} {M : Mem} (ht : tsX M 0 = t) (hS : zSk M 0) : VX t v M (M, 0) (fun _ _ => False) := ⟨by rw [tsV_no.1]; exact ht, tsV_no.2.symm, hS, fun _ _ _ => rfl⟩
theorem VX_s {t : TS} {v : Int → Int → Bool} {M0 : Mem} {s : Mem × Int} {P : Int → Int → Prop} {p q : Int} (h : VX t v M0 s P) : VX t v M0 (putK s.1 0 p q (v p q), if chX s.1 p q (v p q) = true then s.2 + 1 else s.2) (fun r c => P r c ∨ (r = p ∧ c = q)) := by
  obtain ⟨h1, h2, h3, h4⟩ := h
  have hs := tsV_s (t := t) (P := P) (v := v) (p := p) (q := q)
  refine ⟨?_, ?_, zSk_putK h3, fun k a b => (putK_off (by omega) (by omega)).trans (h4 k a b)⟩
  · show tsX (putK s.1 0 p q (v p q)) 0 = _
    rw [tsX_putK h3, h1, hs.1]
  · show (if chX s.1 p q (v p q) = true then s.2 + 1 else s.2) = _
    rw [hs.2, ← h2]
    unfold chX
    rw [h1]
    show (if (inT t p q && (laT (tsV t P v) p q != v p q)) = true then s.2 + 1 else s.2) = s.2 + (if (inT t p q && (laT (tsV t P v) p q != v p q)) = true then 1 else 0)
    split <;> omega
theorem sq_le {x k : Int} (hk : 0 ≤ k) (h : x * x ≤ k * k) : -k ≤ x ∧ x ≤ k := by
  constructor
  · by_cases c : -k ≤ x
    · exact c
    · have h1 : k + 1 ≤ -x := by omega
      have h2 : (k + 1) * (k + 1) ≤ (-x) * (-x) := Int.mul_le_mul h1 h1 (by omega) (by omega)
      rw [Int.neg_mul_neg] at h2
      have h3 : (k + 1) * (k + 1) = k * k + 2 * k + 1 := by rw [Int.add_mul, Int.mul_add]; omega
      omega
  · by_cases c : x ≤ k
    · exact c
    · have h1 : k + 1 ≤ x := by omega
      have h2 : (k + 1) * (k + 1) ≤ x * x := Int.mul_le_mul h1 h1 (by omega) (by omega)
      have h3 : (k + 1) * (k + 1) = k * k + 2 * k + 1 := by rw [Int.add_mul, Int.mul_add]; omega
      omega
def zdk (r c k : Int) : Int → Int → Prop := fun r' c' => (r' - r) * (r' - r) + (c' - c) * (c' - c) ≤ k * k
theorem sq_nn (x : Int) : 0 ≤ x * x := by
  rcases Int.le_total 0 x with h | h
  · exact Int.mul_nonneg h h
  · rw [← Int.neg_mul_neg]
    exact Int.mul_nonneg (by omega) (by omega)
theorem brush_X {t : TS} {M : Mem} {r c k : Int} {b : Bool} (ht : tsX M 0 = t) (hS : zSk M 0) (hk : 0 ≤ k) : VX t (fun _ _ => b) M (zrep (brO r c k b) (2 * k + 1).toNat (M, 0)) (zdk r c k) := by
  have inner : ∀ i : Nat, i < (2 * k + 1).toNat → ∀ (s : Mem × Int) (P : Int → Int → Prop), VX t (fun _ _ => b) M s P → VX t (fun _ _ => b) M (brO r c k b i s) (fun r' c' => P r' c' ∨ ∃ j : Nat, j < (2 * k + 1).toNat ∧ (((i : Int) - k) * ((i : Int) - k) + ((j : Int) - k) * ((j : Int) - k) ≤ k * k ∧ r' = r + ((i : Int) - k) ∧ c' = c + ((j : Int) - k))) := by
    intro i hi s P h
    refine zVrep (N := (2 * k + 1).toNat) (f := brI r c k b i) (VS := VX t (fun _ _ => b) M) (A := fun (j : Nat) r' c' => ((i : Int) - k) * ((i : Int) - k) + ((j : Int) - k) * ((j : Int) - k) ≤ k * k ∧ r' = r + ((i : Int) - k) ∧ c' = c + ((j : Int) - k)) (fun j hj s P h => ?_) h _ (Nat.le_refl _)
    by_cases hd : ((i : Int) - k) * ((i : Int) - k) + ((j : Int) - k) * ((j : Int) - k) ≤ k * k
    · have g := VX_s (p := r + ((i : Int) - k)) (q := c + ((j : Int) - k)) h
      unfold brI
      rw [if_pos hd]
      rw [show (fun r' c' => P r' c' ∨ (((i : Int) - k) * ((i : Int) - k) + ((j : Int) - k) * ((j : Int) - k) ≤ k * k ∧ r' = r + ((i : Int) - k) ∧ c' = c + ((j : Int) - k))) = (fun r' c' => P r' c' ∨ (r' = r + ((i : Int) - k) ∧ c' = c + ((j : Int) - k))) from funext fun r' => funext fun c' => propext ⟨fun z => z.imp id And.right, fun z => z.imp id (fun y => ⟨hd, y⟩)⟩]
      exact g
    · rw [brI_no hd]
      rw [show (fun r' c' => P r' c' ∨ (((i : Int) - k) * ((i : Int) - k) + ((j : Int) - k) * ((j : Int) - k) ≤ k * k ∧ r' = r + ((i : Int) - k) ∧ c' = c + ((j : Int) - k))) = P from funext fun r' => funext fun c' => propext ⟨fun z => z.elim id (fun y => absurd y.1 hd), Or.inl⟩]
      exact h
  have g := zVrep (N := (2 * k + 1).toNat) (f := brO r c k b) (VS := VX t (fun _ _ => b) M) inner (VX_0 (v := fun _ _ => b) ht hS) (2 * k + 1).toNat (Nat.le_refl _)
  rw [show zdk r c k = (fun r' c' => False ∨ ∃ i : Nat, i < (2 * k + 1).toNat ∧ ∃ j : Nat, j < (2 * k + 1).toNat ∧ (((i : Int) - k) * ((i : Int) - k) + ((j : Int) - k) * ((j : Int) - k) ≤ k * k ∧ r' = r + ((i : Int) - k) ∧ c' = c + ((j : Int) - k))) from funext fun r' => funext fun c' => propext ⟨fun z => ?_, fun z => ?_⟩]
  · exact g
  · have z' : (r' - r) * (r' - r) + (c' - c) * (c' - c) ≤ k * k := z
    have n1 := sq_nn (r' - r)
    have n2 := sq_nn (c' - c)
    have b1 := sq_le (x := r' - r) hk (by omega)
    have b2 := sq_le (x := c' - c) hk (by omega)
    refine Or.inr ⟨(r' - r + k).toNat, by omega, (c' - c + k).toNat, by omega, ?_, by omega, by omega⟩
    rw [show (((r' - r + k).toNat : Nat) : Int) - k = r' - r by omega, show (((c' - c + k).toNat : Nat) : Int) - k = c' - c by omega]
    exact z'
  · rcases z with z | ⟨i, hi, j, hj, hd, rfl, rfl⟩
    · exact absurd z id
    · show (r + ((i : Int) - k) - r) * (r + ((i : Int) - k) - r) + (c + ((j : Int) - k) - c) * (c + ((j : Int) - k) - c) ≤ k * k
      rw [show r + ((i : Int) - k) - r = (i : Int) - k by omega, show c + ((j : Int) - k) - c = (j : Int) - k by omega]
      exact hd
theorem smooth_X {t : TS} {M : Mem} {l : Int} (ht : tsX M 0 = t) (hS : zSk M 0) (hd : 0 ≤ tH t ∧ 0 ≤ tW t) : ∃ P : Int → Int → Prop, VX t (fun r c => decide (l ≤ bcZ (arT t r c) + zbz (laT t r c))) M (zrep (smO t l) (tH t).toNat (M, 0)) P ∧ ∀ r' c' : Int, inT t r' c' = true → P r' c' := by
  have inner : ∀ i : Nat, i < (tH t).toNat → ∀ (s : Mem × Int) (P : Int → Int → Prop), VX t (fun r c => decide (l ≤ bcZ (arT t r c) + zbz (laT t r c))) M s P → VX t (fun r c => decide (l ≤ bcZ (arT t r c) + zbz (laT t r c))) M (smO t l i s) (fun r' c' => P r' c' ∨ ∃ j : Nat, j < (tW t).toNat ∧ (r' = i ∧ c' = j)) := fun i hi s P h =>
    zVrep (N := (tW t).toNat) (f := smI t l i) (VS := VX t (fun r c => decide (l ≤ bcZ (arT t r c) + zbz (laT t r c))) M) (A := fun (j : Nat) r' c' => r' = i ∧ c' = j) (fun j hj s P h => VX_s (p := i) (q := j) h) h _ (Nat.le_refl _)
  refine ⟨_, zVrep (N := (tH t).toNat) (f := smO t l) (VS := VX t (fun r c => decide (l ≤ bcZ (arT t r c) + zbz (laT t r c))) M) inner (VX_0 ht hS) (tH t).toNat (Nat.le_refl _), fun r c hi => ?_⟩
  have hb := of_decide_eq_true hi
  exact Or.inr ⟨r.toNat, by omega, c.toNat, by omega, by omega, by omega⟩
