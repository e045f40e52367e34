/-! ===== the class's calls that go over regions ===== -/
def fgX (M : Mem) : Mem := filM M 35 144 (-1)
theorem fgX_off {M : Mem} {k : Nat} (h : k ≠ 35) : fgX M k = M k := by
  funext z
  simp [fgX, filM, h]
theorem fgX_35 {M : Mem} {z : Int} (h : 0 ≤ z ∧ z < 144) : fgX M 35 z = -1 := by
  simp only [fgX, filM]
  rw [if_pos ⟨trivial, h⟩]
theorem fgX_v {M : Mem} : ∀ z : Int, 0 ≤ z → z < 144 → -1 ≤ fgX M 35 z ∧ fgX M 35 z < 144 := fun z a b => by
  rw [fgX_35 ⟨a, b⟩]
  omega
theorem ct_X2_forg (M : Mem) : zCt yX2_forget KX2_forget [zR 33] M (fun zv zM => zv = none ∧ zM = fgX M) := ct_X2_forget M
theorem ct_X2_ovr1 (M : Mem) (hS : zSk M 0) (hv : ∀ z : Int, 0 ≤ z → z < 144 → -1 ≤ M 35 z ∧ M 35 z < 144) (r c : Int) (hi : inT (tsX M 0) r c = true) : zCt yX2_overRegion KX2_overRegion [zR 33, zR 0, zI r, zI c, zI 1] M (fun zv zM => zv = none ∧ zM = (ovX M (laT (tsX M 0) r c) r c 1 144)) := ct_X2_overRegion M hS hv r c hi 1 (Or.inl rfl)
theorem ct_X2_ovr2 (M : Mem) (hS : zSk M 0) (hv : ∀ z : Int, 0 ≤ z → z < 144 → -1 ≤ M 35 z ∧ M 35 z < 144) (r c : Int) (hi : inT (tsX M 0) r c = true) : zCt yX2_overRegion KX2_overRegion [zR 33, zR 0, zI r, zI c, zI 2] M (fun zv zM => zv = none ∧ zM = (ovX M (laT (tsX M 0) r c) r c 2 144)) := ct_X2_overRegion M hS hv r c hi 2 (Or.inr rfl)
/-- what stands while regions are gone over -/
def rgP (M0 M : Mem) : Prop := zSk M 0 ∧ tsX M 0 = tsX M0 0 ∧ (∀ k : Nat, k ≠ 33 → k ≠ 34 → k ≠ 35 → M k = M0 k) ∧ (∀ z : Int, 0 ≤ z → z < 144 → -1 ≤ M 35 z ∧ M 35 z < 144)
def rgN (M : Mem) : Prop := 0 ≤ M 33 2 ∧ M 33 2 ≤ 144 ∧ (M 33 3 = 0 ∨ M 33 3 = 1)
theorem ovX_rgn {M0 M : Mem} {r c : Int} {e : Nat} {l : Bool} (n : Nat) (h : rgP M0 M) (hl : laT (tsX M 0) r c = l) : rgP M0 (ovX M l r c e n) ∧ rgN (ovX M l r c e n) := by
  subst hl
  obtain ⟨h1, h2, h3, h4⟩ := h
  have p := ovX_P (r := r) (c := c) (e := e) h1 h4 n
  have ho : ∀ k : Nat, k ≠ 33 → k ≠ 34 → k ≠ 35 → ovX M (laT (tsX M 0) r c) r c e n k = M k := fun k a b d => (p.1.2.2.2.1 k a b d).trans (ov0_off a)
  have h5 := zbI_le p.1.1
  have h6 : ((ovX M (laT (tsX M 0) r c) r c e n) 33 2).toNat ≤ 144 := h5
  have h7 := p.1.2.1
  have eT : tsX (ovX M (laT (tsX M 0) r c) r c e n) 0 = tsX M 0 := tsX_congr (ho 0 (by decide) (by decide) (by decide)) (ho 9 (by decide) (by decide) (by decide)) (ho 18 (by decide) (by decide) (by decide))
  exact ⟨⟨zSk_congr (ho 0 (by decide) (by decide) (by decide)) (ho 9 (by decide) (by decide) (by decide)) (ho 18 (by decide) (by decide) (by decide)) h1, eT.trans h2, fun k a b d => (ho k a b d).trans (h3 k a b d), sxI_v p.1⟩, by omega, by omega, p.1.2.2.1⟩
theorem ovX_rg {M0 M : Mem} {r c : Int} {e : Nat} {l : Bool} (h : rgP M0 M) (hl : laT (tsX M 0) r c = l) : rgP M0 (ovX M l r c e 144) ∧ rgN (ovX M l r c e 144) := ovX_rgn (e := e) 144 h hl
def rgX (l : Bool) (e : Nat) (g : Int → Int → Int → Int → Int × Int → Int × Int) (i : Int) (j : Nat) (q : Mem × (Int × Int)) : Mem × (Int × Int) := if laT (tsX q.1 0) i j = l ∧ q.1 35 (i * 12 + j) = -1 then (ovX q.1 l i j e 144, g i j (ovX q.1 l i j e 144 33 2) (ovX q.1 l i j e 144 33 3) q.2) else q
def rgO (l : Bool) (e : Nat) (g : Int → Int → Int → Int → Int × Int → Int × Int) (w : Nat) (i : Nat) (q : Mem × (Int × Int)) : Mem × (Int × Int) := zrep (rgX l e g i) w q
theorem rgX_y {l : Bool} {e : Nat} {g : Int → Int → Int → Int → Int × Int → Int × Int} {i : Int} {j : Nat} {q : Mem × (Int × Int)} (h1 : laT (tsX q.1 0) i j = l) (h2 : q.1 35 (i * 12 + j) = -1) : rgX l e g i j q = (ovX q.1 l i j e 144, g i j (ovX q.1 l i j e 144 33 2) (ovX q.1 l i j e 144 33 3) q.2) := if_pos ⟨h1, h2⟩
theorem rgX_n1 {l : Bool} {e : Nat} {g : Int → Int → Int → Int → Int × Int → Int × Int} {i : Int} {j : Nat} {q : Mem × (Int × Int)} (h1 : laT (tsX q.1 0) i j = !l) : rgX l e g i j q = q := if_neg (fun h => by rw [h1] at h; cases l <;> simp at h)
theorem rgX_n2 {l : Bool} {e : Nat} {g : Int → Int → Int → Int → Int × Int → Int × Int} {i : Int} {j : Nat} {q : Mem × (Int × Int)} (h2 : decide (q.1 35 (i * 12 + j) ≠ -1) = true) : rgX l e g i j q = q := if_neg (fun h => of_decide_eq_true h2 h.2)
theorem rgX_P {l : Bool} {e : Nat} {g : Int → Int → Int → Int → Int × Int → Int × Int} {i : Int} {j : Nat} {q : Mem × (Int × Int)} {M0 : Mem} (h : rgP M0 q.1) : rgP M0 (rgX l e g i j q).1 := by
  unfold rgX
  split
  · rename_i hc
    dsimp only
    exact (ovX_rg (e := e) h hc.1).1
  · exact h
theorem rgO_P {l : Bool} {e : Nat} {g : Int → Int → Int → Int → Int × Int → Int × Int} {w i : Nat} {q : Mem × (Int × Int)} {M0 : Mem} (h : rgP M0 q.1) : rgP M0 (rgO l e g w i q).1 := zrep_inv (P := fun q : Mem × (Int × Int) => rgP M0 q.1) h _ (fun _ _ _ hx => rgX_P hx)
theorem fgX_P {M : Mem} (h : zSk M 0) : rgP (fgX M) (fgX M) := ⟨zSk_congr (fgX_off (by decide)) (fgX_off (by decide)) (fgX_off (by decide)) h, rfl, fun _ _ _ _ => rfl, fgX_v⟩
def gIs (_ _ _ _ : Int) (a : Int × Int) : Int × Int := (a.1 + 1, a.2)
def gLk (_ _ _ d : Int) (a : Int × Int) : Int × Int := (a.1 + (if d = 1 then 0 else 1), a.2)
def gLg (r c n _ : Int) (a : Int × Int) : Int × Int := if a.1 < n then (n, 100 * r + c) else a
/-- the most of it lies in a number of tiles -/
def rgQ (q : Mem × (Int × Int)) : Prop := 0 ≤ q.2.1 ∧ q.2.1 ≤ 144
theorem rgX_Q {l : Bool} {e : Nat} {i : Int} {j : Nat} {q : Mem × (Int × Int)} {M0 : Mem} (h : rgP M0 q.1) (hq : rgQ q) : rgQ (rgX l e gLg i j q) := by
  unfold rgX
  split
  · rename_i hc
    have p := (ovX_rg (e := e) h hc.1).2
    obtain ⟨p1, p2, -⟩ := p
    obtain ⟨q1, q2⟩ := hq
    unfold rgQ gLg
    dsimp only
    split
    · dsimp only; exact ⟨p1, p2⟩
    · exact ⟨q1, q2⟩
  · exact hq
theorem rgX_PQ {l : Bool} {e : Nat} {i : Int} {j : Nat} {q : Mem × (Int × Int)} {M0 : Mem} (h : rgP M0 q.1 ∧ rgQ q) : rgP M0 (rgX l e gLg i j q).1 ∧ rgQ (rgX l e gLg i j q) := ⟨rgX_P h.1, rgX_Q h.1 h.2⟩
theorem rgO_PQ {l : Bool} {e : Nat} {w i : Nat} {q : Mem × (Int × Int)} {M0 : Mem} (h : rgP M0 q.1 ∧ rgQ q) : rgP M0 (rgO l e gLg w i q).1 ∧ rgQ (rgO l e gLg w i q) := zrep_inv (P := fun q : Mem × (Int × Int) => rgP M0 q.1 ∧ rgQ q) h _ (fun _ _ _ hx => rgX_PQ hx)
/-- fill's turn over the tiles: Q holds what was reached -/
def fiI (Q : Mem) (b : Bool) (i : Int) (j : Nat) (M : Mem) : Mem := if Q 35 (i * 12 + j) ≠ -1 then putK M 0 i j b else M
def fiO (Q : Mem) (b : Bool) (w : Nat) (i : Nat) (M : Mem) : Mem := zrep (fiI Q b i) w M
def fiP (M0 M : Mem) : Prop := zSk M 0 ∧ ∀ k : Nat, k ≠ 9 → k ≠ 18 → M k = M0 k
theorem fiI_P {Q M0 M : Mem} {b : Bool} {i : Int} {j : Nat} (h : fiP M0 M) : fiP M0 (fiI Q b i j M) := by
  unfold fiI
  split
  · exact ⟨zSk_putK h.1, fun k a d => (putK_off (by omega) (by omega)).trans (h.2 k a d)⟩
  · exact h
theorem fiO_P {Q M0 M : Mem} {b : Bool} {w i : Nat} (h : fiP M0 M) : fiP M0 (fiO Q b w i M) := zrep_inv (P := fiP M0) h _ (fun _ _ _ hx => fiI_P hx)
theorem fiI_y {Q M : Mem} {b : Bool} {i : Int} {j : Nat} (h : decide (Q 35 (i * 12 + j) ≠ -1) = true) : fiI Q b i j M = putK M 0 i j b := if_pos (of_decide_eq_true h)
theorem fiI_n {Q M : Mem} {b : Bool} {i : Int} {j : Nat} (h : decide (Q 35 (i * 12 + j) ≠ -1) = false) : fiI Q b i j M = M := if_neg (of_decide_eq_false h)
def fgR (M : Mem) (r c : Int) (e : Nat) : Mem := ovX (fgX M) (laT (tsX M 0) r c) r c e 144
theorem fgR_P {M : Mem} {r c : Int} {e : Nat} (h : zSk M 0) : rgP (fgX M) (fgR M r c e) ∧ rgN (fgR M r c e) := ovX_rg (fgX_P h) (by rw [show tsX (fgX M) 0 = tsX M 0 from tsX_congr (fgX_off (by decide)) (fgX_off (by decide)) (fgX_off (by decide))])
