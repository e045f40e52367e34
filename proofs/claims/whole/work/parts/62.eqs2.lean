/-! ===== brush, smooth: both make the same of the map ===== -/
def VX (t : TS) (v : Int → Int → Bool) (M0 : Mem) (s : Mem × Int) (P : Int → Int → Prop) : Prop := tsX s.1 0 = tsV t P v ∧ s.2 = tsVc t P v ∧ zSk s.1 0 ∧ ∀ k : Nat, k ≠ 9 → k ≠ 18 → s.1 k = M0 k
theorem VX_0 {t : TS} {v : Int → Int → Bool} {M : Mem} (ht : tsX M 0 = t) (hS : zSk M 0) : VX t v M (M, 0) (fun _ _ => False) := ⟨by rw [tsV_no.1]; exact ht, tsV_no.2.symm, hS, fun _ _ _ => rfl⟩
theorem VX_s {t : TS} {v : Int → Int → Bool} {M0 : Mem} {s : Mem × Int} {P : Int → Int → Prop} {p q : Int} (h : VX t v M0 s P) : VX t v M0 (putK s.1 0 p q (v p q), if chX s.1 p q (v p q) = true then s.2 + 1 else s.2) (fun r c => P r c ∨ (r = p ∧ c = q)) := by
  obtain ⟨h1, h2, h3, h4⟩ := h
  have hs := tsV_s (t := t) (P := P) (v := v) (p := p) (q := q)
  refine ⟨?_, ?_, zSk_putK h3, fun k a b => (putK_off (by omega) (by omega)).trans (h4 k a b)⟩
  · show tsX (putK s.1 0 p q (v p q)) 0 = _
    rw [tsX_putK h3, h1, hs.1]
  · show (if chX s.1 p q (v p q) = true then s.2 + 1 else s.2) = _
    rw [hs.2, ← h2]
    unfold chX
    rw [h1]
    show (if (inT t p q && (laT (tsV t P v) p q != v p q)) = true then s.2 + 1 else s.2) = s.2 + (if (inT t p q && (laT (tsV t P v) p q != v p q)) = true then 1 else 0)
    split <;> omega
def VR (t : TS) (v : Int → Int → Bool) (M0 : Mem) (s : Mem × Int) (P : Int → Int → Prop) : Prop := tsZ (s.1 39) = tsV t P v ∧ s.2 = tsVc t P v ∧ (zRf (s.1 39) ∧ TOk (tsZ (s.1 39))) ∧ ∀ k : Nat, k ≠ 39 → s.1 k = M0 k
theorem VR_0 {t : TS} {v : Int → Int → Bool} {M : Mem} (ht : tsZ (M 39) = t) (hZ : zRf (M 39)) (hO : TOk (tsZ (M 39))) : VR t v M (M, 0) (fun _ _ => False) := ⟨by rw [tsV_no.1]; exact ht, tsV_no.2.symm, ⟨hZ, hO⟩, fun _ _ => rfl⟩
theorem VR_s {t : TS} {v : Int → Int → Bool} {M0 : Mem} {s : Mem × Int} {P : Int → Int → Prop} {p q a : Int} {b : Bool} (h : VR t v M0 s P) (hi : inT t p q = true) (ha : a = tW t * p + q) (hb : b = v p q) : VR t v M0 (becR s.1 a b, if (decide (s.1 39 (3 + a) = 1) != b) = true then s.2 + 1 else s.2) (fun r c => P r c ∨ (r = p ∧ c = q)) := by
  obtain ⟨h1, h2, ⟨h3, h5⟩, h4⟩ := h
  subst hb
  have hs := tsV_s (t := t) (P := P) (v := v) (p := p) (q := q)
  have e0 : s.1 39 0 = tH t := congrArg tH h1
  have e1 : s.1 39 1 = tW t := congrArg tW h1
  have hin : inT (tsZ (s.1 39)) p q = true := by rw [h1]; exact hi
  have hb := hin
  rw [inT_Z] at hb
  have hb := of_decide_eq_true hb
  have ix := zix (h := s.1 39 0) (w := s.1 39 1) ⟨hb.1, hb.2.1⟩ ⟨hb.2.2.1, hb.2.2.2⟩
  have hw := zhw h3.1 h3.2.1 h3.2.2.1 h3.2.2.2.1
  rw [← e1] at ha
  have hla : laT (tsZ (s.1 39)) p q = decide (s.1 39 (3 + a) = 1) := by rw [laT_Z, if_pos hb, ha]
  have hbec : tsZ (becR s.1 a (v p q) 39) = tsS (tsZ (s.1 39)) p q (v p q) := by
    rw [ha, tsZ_bec h3 ⟨hb.1, hb.2.1⟩ ⟨hb.2.2.1, hb.2.2.2⟩, tsB_S h5 hin]
  refine ⟨?_, ?_, ⟨zRf_bec h3 (by omega), ?_⟩, fun k z => (becR_off z).trans (h4 k z)⟩
  · show tsZ (becR s.1 a (v p q) 39) = _
    rw [hbec, h1, hs.1]
  · show (if (decide (s.1 39 (3 + a) = 1) != v p q) = true then s.2 + 1 else s.2) = _
    rw [hs.2, ← h2, ← hla, h1, hi, Bool.true_and]
    split <;> omega
  · show TOk (tsZ (becR s.1 a (v p q) 39))
    rw [hbec]
    exact TOk_S h5
theorem sq_le {x k : Int} (hk : 0 ≤ k) (h : x * x ≤ k * k) : -k ≤ x ∧ x ≤ k := by
  constructor
  · by_cases c : -k ≤ x
    · exact c
    · have h1 : k + 1 ≤ -x := by omega
      have h2 : (k + 1) * (k + 1) ≤ (-x) * (-x) := Int.mul_le_mul h1 h1 (by omega) (by omega)
      rw [Int.neg_mul_neg] at h2
      have h3 : (k + 1) * (k + 1) = k * k + 2 * k + 1 := by rw [Int.add_mul, Int.mul_add]; omega
      omega
  · by_cases c : x ≤ k
    · exact c
    · have h1 : k + 1 ≤ x := by omega
      have h2 : (k + 1) * (k + 1) ≤ x * x := Int.mul_le_mul h1 h1 (by omega) (by omega)
      have h3 : (k + 1) * (k + 1) = k * k + 2 * k + 1 := by rw [Int.add_mul, Int.mul_add]; omega
      omega
def zdk (r c k : Int) : Int → Int → Prop := fun r' c' => (r' - r) * (r' - r) + (c' - c) * (c' - c) ≤ k * k
theorem sq_nn (x : Int) : 0 ≤ x * x := by
  rcases Int.le_total 0 x with h | h
  · exact Int.mul_nonneg h h
  · rw [← Int.neg_mul_neg]
    exact Int.mul_nonneg (by omega) (by omega)
theorem brush_X {t : TS} {M : Mem} {r c k : Int} {b : Bool} (ht : tsX M 0 = t) (hS : zSk M 0) (hk : 0 ≤ k) : VX t (fun _ _ => b) M (zrep (brO r c k b) (2 * k + 1).toNat (M, 0)) (zdk r c k) := by
  have inner : ∀ i : Nat, i < (2 * k + 1).toNat → ∀ (s : Mem × Int) (P : Int → Int → Prop), VX t (fun _ _ => b) M s P → VX t (fun _ _ => b) M (brO r c k b i s) (fun r' c' => P r' c' ∨ ∃ j : Nat, j < (2 * k + 1).toNat ∧ (((i : Int) - k) * ((i : Int) - k) + ((j : Int) - k) * ((j : Int) - k) ≤ k * k ∧ r' = r + ((i : Int) - k) ∧ c' = c + ((j : Int) - k))) := by
    intro i hi s P h
    refine zVrep (N := (2 * k + 1).toNat) (f := brI r c k b i) (VS := VX t (fun _ _ => b) M) (A := fun (j : Nat) r' c' => ((i : Int) - k) * ((i : Int) - k) + ((j : Int) - k) * ((j : Int) - k) ≤ k * k ∧ r' = r + ((i : Int) - k) ∧ c' = c + ((j : Int) - k)) (fun j hj s P h => ?_) h _ (Nat.le_refl _)
    by_cases hd : ((i : Int) - k) * ((i : Int) - k) + ((j : Int) - k) * ((j : Int) - k) ≤ k * k
    · have g := VX_s (p := r + ((i : Int) - k)) (q := c + ((j : Int) - k)) h
      unfold brI
      rw [if_pos hd]
      rw [show (fun r' c' => P r' c' ∨ (((i : Int) - k) * ((i : Int) - k) + ((j : Int) - k) * ((j : Int) - k) ≤ k * k ∧ r' = r + ((i : Int) - k) ∧ c' = c + ((j : Int) - k))) = (fun r' c' => P r' c' ∨ (r' = r + ((i : Int) - k) ∧ c' = c + ((j : Int) - k))) from funext fun r' => funext fun c' => propext ⟨fun z => z.imp id And.right, fun z => z.imp id (fun y => ⟨hd, y⟩)⟩]
      exact g
    · rw [brI_no hd]
      rw [show (fun r' c' => P r' c' ∨ (((i : Int) - k) * ((i : Int) - k) + ((j : Int) - k) * ((j : Int) - k) ≤ k * k ∧ r' = r + ((i : Int) - k) ∧ c' = c + ((j : Int) - k))) = P from funext fun r' => funext fun c' => propext ⟨fun z => z.elim id (fun y => absurd y.1 hd), Or.inl⟩]
      exact h
  have g := zVrep (N := (2 * k + 1).toNat) (f := brO r c k b) (VS := VX t (fun _ _ => b) M) inner (VX_0 (v := fun _ _ => b) ht hS) (2 * k + 1).toNat (Nat.le_refl _)
  rw [show zdk r c k = (fun r' c' => False ∨ ∃ i : Nat, i < (2 * k + 1).toNat ∧ ∃ j : Nat, j < (2 * k + 1).toNat ∧ (((i : Int) - k) * ((i : Int) - k) + ((j : Int) - k) * ((j : Int) - k) ≤ k * k ∧ r' = r + ((i : Int) - k) ∧ c' = c + ((j : Int) - k))) from funext fun r' => funext fun c' => propext ⟨fun z => ?_, fun z => ?_⟩]
  · exact g
  · have z' : (r' - r) * (r' - r) + (c' - c) * (c' - c) ≤ k * k := z
    have n1 := sq_nn (r' - r)
    have n2 := sq_nn (c' - c)
    have b1 := sq_le (x := r' - r) hk (by omega)
    have b2 := sq_le (x := c' - c) hk (by omega)
    refine Or.inr ⟨(r' - r + k).toNat, by omega, (c' - c + k).toNat, by omega, ?_, by omega, by omega⟩
    rw [show (((r' - r + k).toNat : Nat) : Int) - k = r' - r by omega, show (((c' - c + k).toNat : Nat) : Int) - k = c' - c by omega]
    exact z'
  · rcases z with z | ⟨i, hi, j, hj, hd, rfl, rfl⟩
    · exact absurd z id
    · show (r + ((i : Int) - k) - r) * (r + ((i : Int) - k) - r) + (c + ((j : Int) - k) - c) * (c + ((j : Int) - k) - c) ≤ k * k
      rw [show r + ((i : Int) - k) - r = (i : Int) - k by omega, show c + ((j : Int) - k) - c = (j : Int) - k by omega]
      exact hd
/-- a row over all tiles of the reference, with places that it takes -/
theorem VR_all {t : TS} {v : Int → Int → Bool} {M : Mem} {f : Nat → Mem × Int → Mem × Int} (D : Int → Int → Prop) (ht : tsZ (M 39) = t) (hZ : zRf (M 39)) (hO : TOk (tsZ (M 39)))
    (hf : ∀ (i : Nat), (i : Int) < tH t * tW t → ∀ (s : Mem × Int) (P : Int → Int → Prop), VR t v M s P → (D ((i : Int) / tW t) ((i : Int) % tW t) → f i s = (becR s.1 i (v ((i : Int) / tW t) ((i : Int) % tW t)), if (decide (s.1 39 (3 + (i : Int)) = 1) != v ((i : Int) / tW t) ((i : Int) % tW t)) = true then s.2 + 1 else s.2)) ∧ (¬ D ((i : Int) / tW t) ((i : Int) % tW t) → f i s = s)) :
    ∃ P : Int → Int → Prop, VR t v M (zrep f (tH t * tW t).toNat (M, 0)) P ∧ ∀ r c : Int, inT t r c = true → (P r c ↔ D r c) := by
  have e0 : M 39 0 = tH t := congrArg tH ht
  have e1 : M 39 1 = tW t := congrArg tW ht
  obtain ⟨a1, a2, a3, a4, -⟩ := id hZ
  have g := zVrep (N := (tH t * tW t).toNat) (f := f) (VS := VR t v M) (A := fun (i : Nat) r' c' => D ((i : Int) / tW t) ((i : Int) % tW t) ∧ r' = (i : Int) / tW t ∧ c' = (i : Int) % tW t) (fun i hi s P h => by
    have hk : 0 ≤ (i : Int) ∧ (i : Int) < tH t * tW t := by omega
    have kx := zkx hk (by omega)
    obtain ⟨f1, f2⟩ := hf i hk.2 s P h
    by_cases hd : D ((i : Int) / tW t) ((i : Int) % tW t)
    · rw [f1 hd]
      have g := VR_s (p := (i : Int) / tW t) (q := (i : Int) % tW t) (a := i) h (decide_eq_true ⟨kx.1, kx.2.1, kx.2.2.1, kx.2.2.2.1⟩) kx.2.2.2.2.symm rfl
      rw [show (fun r' c' => P r' c' ∨ (D ((i : Int) / tW t) ((i : Int) % tW t) ∧ r' = (i : Int) / tW t ∧ c' = (i : Int) % tW t)) = (fun r' c' => P r' c' ∨ (r' = (i : Int) / tW t ∧ c' = (i : Int) % tW t)) from funext fun r' => funext fun c' => propext ⟨fun z => z.imp id And.right, fun z => z.imp id (fun y => ⟨hd, y⟩)⟩]
      exact g
    · rw [f2 hd]
      rw [show (fun r' c' => P r' c' ∨ (D ((i : Int) / tW t) ((i : Int) % tW t) ∧ r' = (i : Int) / tW t ∧ c' = (i : Int) % tW t)) = P from funext fun r' => funext fun c' => propext ⟨fun z => z.elim id (fun y => absurd y.1 hd), Or.inl⟩]
      exact h) (VR_0 (v := v) ht hZ hO) (tH t * tW t).toNat (Nat.le_refl _)
  refine ⟨_, g, fun r c hi => ⟨fun z => ?_, fun z => ?_⟩⟩
  · rcases z with z | ⟨i, hi, hd, rfl, rfl⟩
    · exact absurd z id
    · exact hd
  · have hb := of_decide_eq_true hi
    have ix := zix (h := tH t) (w := tW t) ⟨hb.1, hb.2.1⟩ ⟨hb.2.2.1, hb.2.2.2⟩
    have ec : (((tW t * r + c).toNat : Nat) : Int) = tW t * r + c := by omega
    refine Or.inr ⟨(tW t * r + c).toNat, by omega, ?_⟩
    rw [ec, ix.2.2.1, ix.2.2.2]
    exact ⟨z, rfl, rfl⟩
theorem brush_R {t : TS} {M : Mem} {r c k : Int} {b : Bool} (ht : tsZ (M 39) = t) (hZ : zRf (M 39)) (hO : TOk (tsZ (M 39))) : ∃ P : Int → Int → Prop, VR t (fun _ _ => b) M (zrep (brR (tW t) r c k b) (tH t * tW t).toNat (M, 0)) P ∧ ∀ r' c' : Int, inT t r' c' = true → (P r' c' ↔ zdk r c k r' c') :=
  VR_all (zdk r c k) ht hZ hO (fun i hi s P h => ⟨fun hd => if_pos hd, fun hd => brR_no hd⟩)
theorem smooth_X {t : TS} {M : Mem} {l : Int} (ht : tsX M 0 = t) (hS : zSk M 0) (hd : 0 ≤ tH t ∧ 0 ≤ tW t) : ∃ P : Int → Int → Prop, VX t (fun r c => decide (l ≤ bcZ (arT t r c) + zbz (laT t r c))) M (zrep (smO t l) (tH t).toNat (M, 0)) P ∧ ∀ r' c' : Int, inT t r' c' = true → P r' c' := by
  have inner : ∀ i : Nat, i < (tH t).toNat → ∀ (s : Mem × Int) (P : Int → Int → Prop), VX t (fun r c => decide (l ≤ bcZ (arT t r c) + zbz (laT t r c))) M s P → VX t (fun r c => decide (l ≤ bcZ (arT t r c) + zbz (laT t r c))) M (smO t l i s) (fun r' c' => P r' c' ∨ ∃ j : Nat, j < (tW t).toNat ∧ (r' = i ∧ c' = j)) := fun i hi s P h =>
    zVrep (N := (tW t).toNat) (f := smI t l i) (VS := VX t (fun r c => decide (l ≤ bcZ (arT t r c) + zbz (laT t r c))) M) (A := fun (j : Nat) r' c' => r' = i ∧ c' = j) (fun j hj s P h => VX_s (p := i) (q := j) h) h _ (Nat.le_refl _)
  refine ⟨_, zVrep (N := (tH t).toNat) (f := smO t l) (VS := VX t (fun r c => decide (l ≤ bcZ (arT t r c) + zbz (laT t r c))) M) inner (VX_0 ht hS) (tH t).toNat (Nat.le_refl _), fun r c hi => ?_⟩
  have hb := of_decide_eq_true hi
  exact Or.inr ⟨r.toNat, by omega, c.toNat, by omega, by omega, by omega⟩
theorem smooth_R {t : TS} {M0 : Mem} {l : Int} (ht : tsZ (M0 39) = t) (hZ : zRf (M0 39)) (hO : TOk (tsZ (M0 39))) : ∃ P : Int → Int → Prop, VR t (fun r c => decide (l ≤ bcZ (arT t r c) + zbz (laT t r c))) (smS M0 (tH t * tW t)) (zrep (smR l) (tH t * tW t).toNat (smS M0 (tH t * tW t), 0)) P ∧ ∀ r' c' : Int, inT t r' c' = true → (P r' c' ↔ True) := by
  have e9 : smS M0 (tH t * tW t) 39 = M0 39 := smS_off (by decide)
  refine VR_all (fun _ _ => True) (by rw [e9]; exact ht) (by rw [e9]; exact hZ) (by rw [e9]; exact hO) (fun i hi s P h => ⟨fun _ => ?_, fun z => absurd trivial z⟩)
  have hk : 0 ≤ (i : Int) ∧ (i : Int) < M0 39 0 * M0 39 1 := ⟨by omega, by rw [← ht] at hi; exact hi⟩
  have hw := zhw hZ.1 hZ.2.1 hZ.2.2.1 hZ.2.2.2.1
  have e1 : M0 39 1 = tW t := congrArg tW ht
  have hv : decide (l ≤ s.1 48 i) = decide (l ≤ bcZ (arT t ((i : Int) / tW t) ((i : Int) % tW t)) + zbz (laT t ((i : Int) / tW t) ((i : Int) % tW t))) := by
    rw [h.2.2.2 48 (by decide), smS_at ⟨by omega, hi⟩, zbz_of (hZ.2.2.2.2.2.1 i (by omega) (by omega)), ← laT_k hZ hk, ht, e1]
  unfold smR
  rw [hv]
