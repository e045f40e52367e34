/-! ===== over one region, in the class's cells ===== -/
def ov0 (M : Mem) : Mem := zup (zup M 33 2 0) 33 3 (zbz false)
def ovG (l : Bool) (e i : Nat) (Q : Mem) : Mem := if (i : Int) < Q 33 2 then nbX Q l e i (8 / e) else Q
def ovX (M : Mem) (l : Bool) (r c : Int) (e n : Nat) : Mem := zrep (ovG l e) n (rhX (ov0 M) r c 0)
theorem ov0_off {M : Mem} {k : Nat} (h : k ≠ 33) : ov0 M k = M k := by
  unfold ov0
  rw [zup_ne h, zup_ne h]
theorem zbM_congr {a b : zBs} (h : ∀ r c : Int, a.1 r c = b.1 r c) : ∀ n : Nat, zbM a n = zbM b n
  | 0 => rfl
  | n + 1 => by
    show zbM a n + (if _ then 0 else 1) = zbM b n + (if _ then 0 else 1)
    rw [zbM_congr h n, h]
theorem ov0_I {M : Mem} (l : Bool) (hv : ∀ z : Int, 0 ≤ z → z < 144 → -1 ≤ M 35 z ∧ M 35 z < 144) : sxI l (zbM (bsX (ov0 M)) 144) (ov0 M) (ov0 M) := by
  have e2 : ov0 M 33 2 = 0 := by unfold ov0; rw [zup_off (by decide), zup_at]
  have e3 : ov0 M 33 3 = 0 := by unfold ov0; rw [zup_at]; rfl
  have en : (bsX (ov0 M)).2.2.1 = 0 := by show (ov0 M 33 2).toNat = 0; rw [e2]; rfl
  refine ⟨⟨by rw [en]; omega, fun i hi => by rw [en] at hi; exact absurd hi (Nat.not_lt_zero i), fun r c => ?_⟩, by omega, Or.inl e3, fun _ _ _ _ => rfl, fun i a b => by rw [e2] at b; omega⟩
  show -1 ≤ (if 0 ≤ r ∧ r < 12 ∧ 0 ≤ c ∧ c < 12 then ov0 M 35 (r * 12 + c) else -1) ∧ (if 0 ≤ r ∧ r < 12 ∧ 0 ≤ c ∧ c < 12 then ov0 M 35 (r * 12 + c) else -1) < 144
  split
  · rw [ov0_off (by decide)]
    exact hv _ (by omega) (by omega)
  · omega
theorem ovG_P {l : Bool} {m0 : Nat} {M0 M : Mem} {e i : Nat} (hS : zSk M0 0) (h : sxI l m0 M0 M) : sxI l m0 M0 (ovG l e i M) ∧ bsX (ovG l e i M) = zbG (tsX M0 0) l e i (bsX M) := by
  have h2 := h.2.1
  unfold ovG zbG
  by_cases q : (i : Int) < M 33 2
  · have p := nbX_P (e := e) hS h q (8 / e)
    rw [if_pos q, if_pos (show i < (bsX M).2.2.1 by show i < (M 33 2).toNat; omega)]
    exact ⟨p.1, p.2.2⟩
  · rw [if_neg q, if_neg (show ¬ i < (bsX M).2.2.1 by show ¬ i < (M 33 2).toNat; omega)]
    exact ⟨h, rfl⟩
theorem ovX_P {M : Mem} {r c : Int} {e : Nat} (hS : zSk M 0) (hv : ∀ z : Int, 0 ≤ z → z < 144 → -1 ≤ M 35 z ∧ M 35 z < 144) : ∀ n : Nat,
    sxI (laT (tsX M 0) r c) (zbM (bsX (ov0 M)) 144) (ov0 M) (ovX M (laT (tsX M 0) r c) r c e n) ∧ bsX (ovX M (laT (tsX M 0) r c) r c e n) = zbY (tsX M 0) (laT (tsX M 0) r c) e n (zbR (tsX M 0) r c 0 (bsX (ov0 M)))
  | 0 => by
    have hS0 : zSk (ov0 M) 0 := zSk_congr (ov0_off (by decide)) (ov0_off (by decide)) (ov0_off (by decide)) hS
    have ht : tsX (ov0 M) 0 = tsX M 0 := tsX_congr (ov0_off (by decide)) (ov0_off (by decide)) (ov0_off (by decide))
    have e2 : ov0 M 33 2 = 0 := by unfold ov0; rw [zup_off (by decide), zup_at]
    have p := sxI_rh (r := r) (c := c) (k := 0) hS0 (by rw [ht]) (by omega) (ov0_I (laT (tsX M 0) r c) hv)
    have eb := bsX_rh (r := r) (c := c) (k := 0) hS0 (by omega)
    rw [ht] at eb
    exact ⟨p, eb⟩
  | n + 1 => by
    have ih := ovX_P (r := r) (c := c) (e := e) hS hv n
    have hS0 : zSk (ov0 M) 0 := zSk_congr (ov0_off (by decide)) (ov0_off (by decide)) (ov0_off (by decide)) hS
    have ht : tsX (ov0 M) 0 = tsX M 0 := tsX_congr (ov0_off (by decide)) (ov0_off (by decide)) (ov0_off (by decide))
    have g := ovG_P (e := e) (i := n) hS0 ih.1
    rw [ih.2, ht] at g
    exact g
