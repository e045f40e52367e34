/-! ===== the calls over regions: both answer the same ===== -/
theorem fgX_no {M : Mem} (hS : zSk M 0) (r c : Int) : ¬ vX (tsX M 0) (fgX M) r c := by
  intro z
  obtain ⟨a1, a2, a3, a4, -⟩ := hS
  have hi := z.1
  rw [inT_X] at hi
  have hi := of_decide_eq_true hi
  exact z.2 (fgX_35 (by omega))
theorem fgX_ts {M : Mem} : tsX (fgX M) 0 = tsX M 0 := tsX_congr (fgX_off (by decide)) (fgX_off (by decide)) (fgX_off (by decide))
theorem fgX_cl {M : Mem} {e : Nat} (hS : zSk M 0) : zCl (tsX M 0) e (vX (tsX M 0) (fgX M)) := fun _ _ _ _ _ _ _ h => absurd h (fgX_no hS _ _)
/-- one region of the class, from nothing -/
theorem fgR_reg {M : Mem} {r c : Int} {e : Nat} (he : e = 1 ∨ e = 2) (hS : zSk M 0) (hi : inT (tsX M 0) r c = true) :
    fgR M r c e 33 2 = (((zFr (tsX M 0) r c e).2.2.1 : Nat) : Int) ∧ ∀ r' c' : Int, inT (tsX M 0) r' c' = true → fgR M r c e 35 (r' * 12 + c') = (zFr (tsX M 0) r c e).1 r' c' := by
  have hF := fgX_P hS
  have hi' := hi
  obtain ⟨a1, a2, a3, a4, -⟩ := id hS
  rw [inT_X] at hi'
  have hi' := of_decide_eq_true hi'
  have g := X_reg (M := fgX M) (r := r) (c := c) he hF.1 hF.2.2.2 (by rw [fgX_ts]; exact hi) (fgX_35 (by omega)) (by rw [fgX_ts]; exact fgX_cl hS)
  rw [fgX_ts] at g
  exact ⟨g.1, fun r' c' h => (g.2.2.1 r' c' h).1 (fgX_no hS r' c')⟩
theorem region_eq {M N : Mem} {r c : Int} {b : Bool} (hS : zSk M 0) (hZ : zRf (N 39)) (ht : tsX M 0 = tsZ (N 39)) :
    (if inT (tsX M 0) r c = true then fgR M r c (if b then 1 else 2) 33 2 else -1) = (if inT (tsZ (N 39)) r c = true then frM N (N 39 1 * r + c) (decide (N 39 (3 + (N 39 1 * r + c)) = 1)) (if b then 1 else 2) 144 38 12 else -1) := by
  rw [← ht]
  by_cases hi : inT (tsX M 0) r c = true
  · rw [if_pos hi, if_pos hi, (fgR_reg (e := if b then 1 else 2) (by cases b <;> simp) hS hi).1]
    have h2 := hi
    rw [ht, inT_Z] at h2
    have h2 := of_decide_eq_true h2
    have ix := zix (h := N 39 0) (w := N 39 1) ⟨h2.1, h2.2.1⟩ ⟨h2.2.2.1, h2.2.2.2⟩
    rw [(R_reg (e := if b then 1 else 2) hZ ⟨ix.1, ix.2.1⟩ rfl).1, ix.2.2.1, ix.2.2.2, ht]
  · rw [if_neg hi, if_neg hi]
theorem way_eq {M N : Mem} {r c p q : Int} (hS : zSk M 0) (hZ : zRf (N 39)) (ht : tsX M 0 = tsZ (N 39)) :
    (if inT (tsX M 0) r c = true ∧ inT (tsX M 0) p q = true then (if fgR M r c 2 35 (p * 12 + q) ≠ -1 then fgR M r c 2 35 (p * 12 + q) else -6) else -1) = (if inT (tsZ (N 39)) r c = true ∧ inT (tsZ (N 39)) p q = true then frM N (N 39 1 * r + c) (decide (N 39 (3 + (N 39 1 * r + c)) = 1)) 2 144 47 (N 39 1 * p + q) else -1) := by
  rw [← ht]
  by_cases hi : inT (tsX M 0) r c = true ∧ inT (tsX M 0) p q = true
  · rw [if_pos hi, if_pos hi, (fgR_reg (e := 2) (Or.inr rfl) hS hi.1).2 p q hi.2]
    have h2 := hi.1
    rw [ht, inT_Z] at h2
    have h2 := of_decide_eq_true h2
    have ix := zix (h := N 39 0) (w := N 39 1) ⟨h2.1, h2.2.1⟩ ⟨h2.2.2.1, h2.2.2.2⟩
    have h3 := hi.2
    rw [ht] at h3
    have h4 := h3
    rw [inT_Z] at h4
    have h4 := of_decide_eq_true h4
    have iy := zix (h := N 39 0) (w := N 39 1) ⟨h4.1, h4.2.1⟩ ⟨h4.2.2.1, h4.2.2.2⟩
    have hw := zhw hZ.1 hZ.2.1 hZ.2.2.1 hZ.2.2.2.1
    have g := (R_reg (e := 2) hZ ⟨ix.1, ix.2.1⟩ rfl).2.2.1 p q h3
    have g2 := (frM_ok (e := 2) hZ ⟨ix.1, ix.2.1⟩ rfl).2.2.2.2.2 (N 39 1 * p + q) iy.1 (by omega)
    rw [ix.2.2.1, ix.2.2.2] at g
    rw [ht, ← g]
    by_cases z : frM N (N 39 1 * r + c) (decide (N 39 (3 + (N 39 1 * r + c)) = 1)) 2 144 47 (N 39 1 * p + q) = -6
    · rw [if_pos z, if_neg (fun w => w rfl), z]
    · rw [if_neg z, if_pos (by omega)]
  · rw [if_neg hi, if_neg hi]
/-- over all regions of a kind -/
def rgXz (l : Bool) (e : Nat) (g : Int → Int → Int → Int → Int × Int → Int × Int) (i j : Int) (q : Mem × (Int × Int)) : Mem × (Int × Int) := if laT (tsX q.1 0) i j = l ∧ q.1 35 (i * 12 + j) = -1 then (ovX q.1 l i j e 144, g i j (ovX q.1 l i j e 144 33 2) (ovX q.1 l i j e 144 33 3) q.2) else q
def RgS (t : TS) (e : Nat) (M N : Mem) (x y : Mem × (Int × Int)) : Prop := rgP (fgX M) x.1 ∧ srP (snM N) y.1 ∧ (∀ r c : Int, inT t r c = true → (vX t x.1 r c ↔ y.1 51 (tW t * r + c) = 1)) ∧ zCl t e (vX t x.1) ∧ x.2 = y.2
/-- what seeFound marks -/
theorem sfM_1 {M : Mem} : ∀ (n : Nat) (z : Int), sfM M n 51 z = 1 ↔ (M 51 z = 1 ∨ ∃ i : Nat, i < n ∧ M 46 i = z)
  | 0, z => ⟨Or.inl, fun h => h.elim id (fun ⟨i, hi, _⟩ => absurd hi (Nat.not_lt_zero i))⟩
  | n + 1, z => by
    show zup (sfM M n) 51 (M 46 n) (zbz true) 51 z = 1 ↔ _
    by_cases e : z = M 46 n
    · rw [e, zup_at]
      exact ⟨fun _ => Or.inr ⟨n, Nat.lt_succ_self n, rfl⟩, fun _ => rfl⟩
    · rw [zup_off e, sfM_1 n z]
      constructor
      · rintro (h | ⟨i, hi, h⟩)
        · exact Or.inl h
        · exact Or.inr ⟨i, by omega, h⟩
      · rintro (h | ⟨i, hi, h⟩)
        · exact Or.inl h
        · by_cases q : i = n
          · subst q; exact absurd h.symm e
          · exact Or.inr ⟨i, by omega, h⟩
theorem RgS_s {t : TS} {e : Nat} {l : Bool} {g : Int → Int → Int → Int → Int × Int → Int × Int} {M N : Mem} (he : e = 1 ∨ e = 2) (hZ : zRf (N 39)) (hx : tsX M 0 = t) (hy : tsZ (N 39) = t) {k : Nat} (hk : (k : Int) < tH t * tW t) {x y : Mem × (Int × Int)} (h : RgS t e M N x y) : RgS t e M N (rgXz l e g ((k : Int) / tW t) ((k : Int) % tW t) x) (rgR l e g k y) := by
  obtain ⟨h1, h2, h3, h4, h5⟩ := h
  have e9 : y.1 39 = N 39 := (srP_39 h2).trans (snM_off (by decide))
  have eW : N 39 1 = tW t := congrArg tW hy
  have eH : N 39 0 = tH t := congrArg tH hy
  have ex : tsX x.1 0 = t := h1.2.1.trans (fgX_ts.trans hx)
  have hZy : zRf (y.1 39) := by rw [e9]; exact hZ
  have hky : 0 ≤ (k : Int) ∧ (k : Int) < y.1 39 0 * y.1 39 1 := ⟨by omega, by rw [e9, eH, eW]; exact hk⟩
  have hw := zhw hZ.1 hZ.2.1 hZ.2.2.1 hZ.2.2.2.1
  have kx := zkx (h := tH t) (w := tW t) (k := k) ⟨by omega, hk⟩ (by have := hZ.2.2.1; omega)
  have hin : inT t ((k : Int) / tW t) ((k : Int) % tW t) = true := decide_eq_true ⟨kx.1, kx.2.1, kx.2.2.1, kx.2.2.2.1⟩
  have hla : laT t ((k : Int) / tW t) ((k : Int) % tW t) = decide (y.1 39 (3 + (k : Int)) = 1) := by
    have := laT_k hZy hky
    rw [e9, hy, eW] at this
    rw [e9]
    exact this
  have hsee := h3 _ _ hin
  rw [kx.2.2.2.2] at hsee
  have h51 := h2.2.2 (k : Int) (by omega) (by rw [eH, eW] at hw; omega)
  have hb12 := of_decide_eq_true hin
  by_cases hc : decide (y.1 39 (3 + (k : Int)) = 1) = l ∧ y.1 51 k = 0
  · have hx35 : x.1 35 ((k : Int) / tW t * 12 + (k : Int) % tW t) = -1 := Classical.not_not.mp (fun z => by
      have := hsee.mp ⟨hin, z⟩
      omega)
    have hlx : laT (tsX x.1 0) ((k : Int) / tW t) ((k : Int) % tW t) = l := by rw [ex]; exact hla.trans hc.1
    unfold rgXz
    rw [if_pos ⟨hlx, hx35⟩, rgR_y hc.1 hc.2]
    have gX := X_reg (M := x.1) (r := (k : Int) / tW t) (c := (k : Int) % tW t) he h1.1 h1.2.2.2 (by rw [ex]; exact hin) hx35 (by rw [ex]; exact h4)
    have gR := R_reg (M := y.1) (k := k) (l := l) (e := e) hZy hky hc.1
    rw [hlx, ex] at gX
    rw [show tsZ (y.1 39) = t by rw [e9]; exact hy, show y.1 39 1 = tW t by rw [e9]; exact eW] at gR
    have hq := zFr_q (e := e) (t := t) (r := (k : Int) / tW t) (c := (k : Int) % tW t) ⟨by rw [← eH]; exact hZ.2.1, by rw [← eW]; exact hZ.2.2.2.1⟩ hin
    have hA := (ovX_rg (e := e) h1 hlx).1
    have hB := seR_P (e := e) (by rw [snM_off (by decide)]; exact hZ) h2 hky hc.1
    have hD := gX.2.2.2
    unfold RgS
    dsimp only
    refine ⟨hA, hB, fun r c hi => ?_, hD, ?_⟩
    · have gx := (gX.2.2.1 r c hi).2
      rw [gx, h3 r c hi, (hq.1 r c)]
      unfold seR
      rw [sfM_1]
      have hF := frM_ok (M := y.1) (k := k) (l := l) (e := e) hZy hky hc.1
      rw [hF.2.2.1 51 (by decide) (by decide) (by decide)]
      have hb := of_decide_eq_true hi
      have ix := zix (h := tH t) (w := tW t) ⟨hb.1, hb.2.1⟩ ⟨hb.2.2.1, hb.2.2.2⟩
      rw [gR.1, Int.toNat_natCast]
      constructor
      · rintro (z | ⟨i, i1, i2⟩)
        · exact Or.inl z
        · refine Or.inr ⟨i, i1, ?_⟩
          have g4 := (gR.2.2.2 i i1).trans i2
          have g5 := hF.2.2.2.2.1 (i : Int) (by omega) (by rw [gR.1]; omega)
          have ky := zkx g5 (by have := hZy.2.2.1; omega)
          have g6 := congrArg Prod.fst g4
          have g7 := congrArg Prod.snd g4
          dsimp only at g6 g7
          rw [← g6, ← g7, ← eW, ← e9]
          exact ky.2.2.2.2.symm
      · rintro (z | ⟨i, i1, i2⟩)
        · exact Or.inl z
        · refine Or.inr ⟨i, i1, ?_⟩
          rw [← gR.2.2.2 i i1, i2, ix.2.2.1, ix.2.2.2]
    · rw [gX.1, gX.2.1, gR.1, Int.toNat_natCast, h5]
      have g2 := gR.2.1
      rw [gR.1, Int.toNat_natCast] at g2
      rw [g2, e9, eW]
  · have hx : ¬ (laT (tsX x.1 0) ((k : Int) / tW t) ((k : Int) % tW t) = l ∧ x.1 35 ((k : Int) / tW t * 12 + (k : Int) % tW t) = -1) := fun z => hc ⟨by rw [ex] at z; exact hla.symm.trans z.1, by
      have : ¬ y.1 51 k = 1 := fun w => (hsee.mpr w).2 z.2
      omega⟩
    unfold rgXz rgR
    rw [if_neg hx, if_neg hc]
    exact ⟨h1, h2, h3, h4, h5⟩
theorem regs_eq {M N : Mem} {t : TS} {e : Nat} {l : Bool} {g : Int → Int → Int → Int → Int × Int → Int × Int} {a : Int × Int} (he : e = 1 ∨ e = 2) (hS : zSk M 0) (hZ : zRf (N 39)) (hx : tsX M 0 = t) (hy : tsZ (N 39) = t) :
    (zrep (rgO l e g (M 0 1).toNat) (M 0 0).toNat (fgX M, a)).2 = (zrep (rgR l e g) (N 39 0 * N 39 1).toNat (snM N, a)).2 := by
  obtain ⟨a1, a2, a3, a4, -⟩ := id hS
  have e1 : zrep (rgO l e g (M 0 1).toNat) (M 0 0).toNat (fgX M, a) = z2 t (rgXz l e g) (fgX M, a) := by rw [← hx]; rfl
  have eH : M 0 0 = tH t := congrArg tH hx
  have eW : M 0 1 = tW t := congrArg tW hx
  have eH2 : N 39 0 = tH t := congrArg tH hy
  have eW2 : N 39 1 = tW t := congrArg tW hy
  rw [e1, ← z2_flat t (rgXz l e g) (fgX M, a) (by omega) (by omega), eH2, eW2]
  have h0 : RgS t e M N (fgX M, a) (snM N, a) := by
    refine ⟨fgX_P hS, snM_P, fun r c hi => ?_, by rw [← hx]; exact fgX_cl hS, rfl⟩
    have hb := of_decide_eq_true hi
    have ix := zix (h := tH t) (w := tW t) ⟨hb.1, hb.2.1⟩ ⟨hb.2.2.1, hb.2.2.2⟩
    have hw := zhw hZ.1 hZ.2.1 hZ.2.2.1 hZ.2.2.2.1
    rw [eH2, eW2] at hw
    constructor
    · intro z
      rw [← hx] at z
      exact absurd z (fgX_no hS r c)
    · intro z
      dsimp only at z
      rw [snM_51 ⟨ix.1, by omega⟩] at z
      exact absurd z (by decide)
  exact (zrep_rel (R := RgS t e M N) h0 (tH t * tW t).toNat (fun k hk x y h => RgS_s (k := k) he hZ hx hy (by omega) h)).2.2.2.2
