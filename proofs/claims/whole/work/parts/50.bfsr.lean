/-! ===== spreading in the reference's cells ===== -/
def zbTi (t : TS) (q : Nat → Int × Int) (n : Nat) : Bool := zrep (fun (i : Nat) (b : Bool) => b || zbEd t (q i).1 (q i).2) n false
theorem zbTi_congr {t : TS} {q q' : Nat → Int × Int} {n : Nat} (h : ∀ i, i < n → q i = q' i) : zbTi t q n = zbTi t q' n := zrep_congr false (fun i hi x => by rw [h i hi])
def bsR (M : Mem) : zBs := (fun r c => if inT (tsZ (M 39)) r c then (if M 47 (M 39 1 * r + c) = -6 then -1 else M 47 (M 39 1 * r + c)) else -1, fun n => (M 46 n / M 39 1, M 46 n % M 39 1), (M 38 12).toNat, zbTi (tsZ (M 39)) (fun n => (M 46 n / M 39 1, M 46 n % M 39 1)) (M 38 12).toNat)
def rhB (M : Mem) (a k : Int) : Mem := zup (zup (zup M 47 a k) 46 (M 38 12) a) 38 12 (M 38 12 + 1)
theorem rhB_off {M : Mem} {a k : Int} {i : Nat} (h1 : i ≠ 38) (h2 : i ≠ 46) (h3 : i ≠ 47) : rhB M a k i = M i := by
  unfold rhB
  rw [zup_ne h1, zup_ne h2, zup_ne h3]
theorem rhB_47 {M : Mem} {a k : Int} : rhB M a k 47 = zup M 47 a k 47 := by
  unfold rhB
  rw [zup_ne (by decide), zup_ne (by decide)]
theorem rhB_46 {M : Mem} {a k : Int} : rhB M a k 46 = zup M 46 (M 38 12) a 46 := by
  unfold rhB
  rw [zup_ne (by decide)]
  funext z
  simp [zup]
theorem rhB_38 {M : Mem} {a k z : Int} (h : z ≠ 12) : rhB M a k 38 z = M 38 z := by
  unfold rhB
  rw [zup_off h, zup_ne (by decide), zup_ne (by decide)]
theorem rhB_12 {M : Mem} {a k : Int} : rhB M a k 38 12 = M 38 12 + 1 := zup_at _ _ _ _
theorem bsR_rh {M : Mem} {r c k : Int} (hq : 0 ≤ M 38 12) (hi : inT (tsZ (M 39)) r c = true) (hs : M 47 (M 39 1 * r + c) = -6) (hk : k ≠ -6) : bsR (rhB M (M 39 1 * r + c) k) = zbR (tsZ (M 39)) r c k (bsR M) := by
  have hb := hi
  rw [inT_Z] at hb
  have hb := of_decide_eq_true hb
  have ix := zix (h := M 39 0) (w := M 39 1) ⟨hb.1, hb.2.1⟩ ⟨hb.2.2.1, hb.2.2.2⟩
  have e39 : rhB M (M 39 1 * r + c) k 39 = M 39 := rhB_off (by decide) (by decide) (by decide)
  have e0 : (bsR M).1 r c = -1 := by
    show (if inT (tsZ (M 39)) r c then (if M 47 (M 39 1 * r + c) = -6 then -1 else M 47 (M 39 1 * r + c)) else -1) = -1
    rw [if_pos hi, if_pos hs]
  unfold zbR
  rw [if_pos ⟨hi, e0⟩]
  have eq : ∀ n : Nat, ((rhB M (M 39 1 * r + c) k 46 n / rhB M (M 39 1 * r + c) k 39 1, rhB M (M 39 1 * r + c) k 46 n % rhB M (M 39 1 * r + c) k 39 1) : Int × Int) = if n = (M 38 12).toNat then (r, c) else (M 46 n / M 39 1, M 46 n % M 39 1) := by
    intro n
    rw [e39, rhB_46]
    by_cases q : n = (M 38 12).toNat
    · rw [if_pos q, show ((n : Nat) : Int) = M 38 12 by omega, zup_at, ix.2.2.1, ix.2.2.2]
    · rw [if_neg q, zup_off (by omega)]
  refine zBs_ext (fun r' c' => ?_) eq ?_ ?_
  · show (if inT (tsZ (rhB M (M 39 1 * r + c) k 39)) r' c' then (if rhB M (M 39 1 * r + c) k 47 (rhB M (M 39 1 * r + c) k 39 1 * r' + c') = -6 then -1 else rhB M (M 39 1 * r + c) k 47 (rhB M (M 39 1 * r + c) k 39 1 * r' + c')) else -1) = (if r' = r ∧ c' = c then k else if inT (tsZ (M 39)) r' c' then (if M 47 (M 39 1 * r' + c') = -6 then -1 else M 47 (M 39 1 * r' + c')) else -1)
    rw [e39, rhB_47]
    by_cases z : r' = r ∧ c' = c
    · rw [if_pos z, z.1, z.2, if_pos hi, zup_at, if_neg hk]
    · rw [if_neg z]
      cases hi' : inT (tsZ (M 39)) r' c'
      · rfl
      · have hb' := hi'
        rw [inT_Z] at hb'
        have hb' := of_decide_eq_true hb'
        have ne : M 39 1 * r' + c' ≠ M 39 1 * r + c := fun e => z (zix_inj ⟨hb'.2.2.1, hb'.2.2.2⟩ ⟨hb.2.2.1, hb.2.2.2⟩ hb'.1 hb.1 e)
        rw [zup_off ne]
  · show (rhB M (M 39 1 * r + c) k 38 12).toNat = (M 38 12).toNat + 1
    rw [rhB_12]
    omega
  · show zbTi (tsZ (rhB M (M 39 1 * r + c) k 39)) (fun n => (rhB M (M 39 1 * r + c) k 46 n / rhB M (M 39 1 * r + c) k 39 1, rhB M (M 39 1 * r + c) k 46 n % rhB M (M 39 1 * r + c) k 39 1)) (rhB M (M 39 1 * r + c) k 38 12).toNat = (zbTi (tsZ (M 39)) (fun n => (M 46 n / M 39 1, M 46 n % M 39 1)) (M 38 12).toNat || zbEd (tsZ (M 39)) r c)
    rw [rhB_12, show (M 38 12 + 1).toNat = (M 38 12).toNat + 1 by omega]
    show (zbTi (tsZ (rhB M (M 39 1 * r + c) k 39)) (fun n => (rhB M (M 39 1 * r + c) k 46 n / rhB M (M 39 1 * r + c) k 39 1, rhB M (M 39 1 * r + c) k 46 n % rhB M (M 39 1 * r + c) k 39 1)) (M 38 12).toNat || zbEd (tsZ (rhB M (M 39 1 * r + c) k 39)) ((fun n : Nat => ((rhB M (M 39 1 * r + c) k 46 n / rhB M (M 39 1 * r + c) k 39 1, rhB M (M 39 1 * r + c) k 46 n % rhB M (M 39 1 * r + c) k 39 1) : Int × Int)) (M 38 12).toNat).1 ((fun n : Nat => ((rhB M (M 39 1 * r + c) k 46 n / rhB M (M 39 1 * r + c) k 39 1, rhB M (M 39 1 * r + c) k 46 n % rhB M (M 39 1 * r + c) k 39 1) : Int × Int)) (M 38 12).toNat).2) = _
    rw [zbTi_congr (q' := fun n => (M 46 n / M 39 1, M 46 n % M 39 1)) (fun i hi2 => (eq i).trans (if_neg (by omega)))]
    rw [show ((fun n : Nat => ((rhB M (M 39 1 * r + c) k 46 n / rhB M (M 39 1 * r + c) k 39 1, rhB M (M 39 1 * r + c) k 46 n % rhB M (M 39 1 * r + c) k 39 1) : Int × Int)) (M 38 12).toNat) = (r, c) from (eq _).trans (if_pos rfl), e39]
/-- what stands in the reference's cells while it spreads -/
def srI (l : Bool) (m0 : Nat) (M0 M : Mem) : Prop := zbI (tsZ (M0 39)) l m0 (bsR M) ∧ 0 ≤ M 38 12 ∧ (∀ k : Nat, k ≠ 38 → k ≠ 46 → k ≠ 47 → M k = M0 k) ∧ (∀ z : Int, z ≠ 12 → M 38 z = M0 38 z) ∧ (∀ i : Int, 0 ≤ i → i < M 38 12 → 0 ≤ M 46 i ∧ M 46 i < M0 39 0 * M0 39 1) ∧ (∀ z : Int, 0 ≤ z → z < 144 → M 47 z = -6 ∨ (0 ≤ M 47 z ∧ M 47 z < 144))
theorem srI_39 {l : Bool} {m0 : Nat} {M0 M : Mem} (h : srI l m0 M0 M) : M 39 = M0 39 := h.2.2.1 39 (by decide) (by decide) (by decide)
theorem srI_le {l : Bool} {m0 : Nat} {M0 M : Mem} (h : srI l m0 M0 M) : M 38 12 ≤ 144 := by
  have h1 := zbI_le h.1
  have h2 : (M 38 12).toNat ≤ 144 := h1
  omega
/-- a place of the queue, by its steps -/
theorem bsR_k {l : Bool} {m0 : Nat} {M0 M : Mem} {i : Nat} (hZ : zRf (M0 39)) (h : srI l m0 M0 M) (hi : (i : Int) < M 38 12) : (bsR M).1 ((bsR M).2.1 i).1 ((bsR M).2.1 i).2 = M 47 (M 46 i) ∧ 0 ≤ M 47 (M 46 i) ∧ M 47 (M 46 i) ≤ i := by
  have g := h.2.2.2.2.1 i (by omega) hi
  have e39 := srI_39 h
  have kx := zkx (h := M0 39 0) (w := M0 39 1) g (by have := hZ.2.2.1; omega)
  have g2 := h.1.2.1 i (by show i < (M 38 12).toNat; omega)
  have hin : inT (tsZ (M0 39)) (M 46 i / M0 39 1) (M 46 i % M0 39 1) = true := by rw [inT_Z]; exact decide_eq_true ⟨kx.1, kx.2.1, kx.2.2.1, kx.2.2.2.1⟩
  have e1 : (bsR M).1 ((bsR M).2.1 i).1 ((bsR M).2.1 i).2 = if M 47 (M 46 i) = -6 then -1 else M 47 (M 46 i) := by
    show (if inT (tsZ (M 39)) (M 46 i / M 39 1) (M 46 i % M 39 1) then (if M 47 (M 39 1 * (M 46 i / M 39 1) + M 46 i % M 39 1) = -6 then -1 else M 47 (M 39 1 * (M 46 i / M 39 1) + M 46 i % M 39 1)) else -1) = _
    rw [e39, if_pos hin, kx.2.2.2.2]
  rw [e1] at g2 ⊢
  by_cases z : M 47 (M 46 i) = -6
  · rw [if_pos z] at g2
    omega
  · rw [if_neg z] at g2 ⊢
    exact ⟨rfl, g2.2.2.1, g2.2.2.2⟩
/-- one neighbour: of the place (r, c), that is number i of the queue -/
def frE (l : Bool) (r c : Int) (i : Nat) (d : Int) (Q : Mem) : Mem := if (inT (tsZ (Q 39)) (r + zrow d) (c + zcol d) = true ∧ Q 47 (Q 39 1 * (r + zrow d) + (c + zcol d)) = -6) ∧ decide (Q 39 (3 + (Q 39 1 * (r + zrow d) + (c + zcol d))) = 1) = l then rhB Q (Q 39 1 * (r + zrow d) + (c + zcol d)) (Q 47 (Q 46 i) + 1) else Q
theorem frE_y {l : Bool} {r c d : Int} {i : Nat} {Q : Mem} (h1 : inT (tsZ (Q 39)) (r + zrow d) (c + zcol d) = true) (h2 : Q 47 (Q 39 1 * (r + zrow d) + (c + zcol d)) = -6) (h3 : decide (Q 39 (3 + (Q 39 1 * (r + zrow d) + (c + zcol d))) = 1) = l) : frE l r c i d Q = rhB Q (Q 39 1 * (r + zrow d) + (c + zcol d)) (Q 47 (Q 46 i) + 1) := if_pos ⟨⟨h1, h2⟩, h3⟩
theorem frE_1 {l : Bool} {r c d : Int} {i : Nat} {Q : Mem} (h1 : inT (tsZ (Q 39)) (r + zrow d) (c + zcol d) = false) : frE l r c i d Q = Q := if_neg (fun h => by rw [h1] at h; exact absurd h.1.1 (by decide))
theorem frE_2 {l : Bool} {r c d : Int} {i : Nat} {Q : Mem} (h2 : Q 47 (Q 39 1 * (r + zrow d) + (c + zcol d)) ≠ -6) : frE l r c i d Q = Q := if_neg (fun h => h2 h.1.2)
theorem frE_3 {l : Bool} {r c d : Int} {i : Nat} {Q : Mem} (h3 : decide (Q 39 (3 + (Q 39 1 * (r + zrow d) + (c + zcol d))) = 1) ≠ l) : frE l r c i d Q = Q := if_neg (fun h => h3 h.2)
theorem frE_P {l : Bool} {m0 : Nat} {M0 Q : Mem} {r c d : Int} {i : Nat} (hZ : zRf (M0 39)) (h : srI l m0 M0 Q) (hi : (i : Int) < Q 38 12) :
    srI l m0 M0 (frE l r c i d Q) ∧ Q 38 12 ≤ frE l r c i d Q 38 12 ∧ bsR (frE l r c i d Q) = zbE (tsZ (M0 39)) l r c (Q 47 (Q 46 i) + 1) d (bsR Q) ∧ frE l r c i d Q 46 i = Q 46 i ∧ frE l r c i d Q 47 (Q 46 i) = Q 47 (Q 46 i) := by
  have e39 := srI_39 h
  have hk := bsR_k hZ h hi
  obtain ⟨a1, a2, a3, a4, -⟩ := id hZ
  have hw := zhw a1 a2 a3 a4
  have hE := zbI_E (r := r) (c := c) (k := Q 47 (Q 46 i) + 1) (d := d) (m0 := m0) (l := l) (t := tsZ (M0 39)) (s := bsR Q) ⟨a2, a4⟩ ⟨by omega, by show _ ≤ (((Q 38 12).toNat : Nat) : Int); omega⟩ h.1
  by_cases hin : inT (tsZ (Q 39)) (r + zrow d) (c + zcol d) = true
  · have hb := hin
    rw [inT_Z, e39] at hb
    have hb := of_decide_eq_true hb
    have ix := zix (h := M0 39 0) (w := M0 39 1) ⟨hb.1, hb.2.1⟩ ⟨hb.2.2.1, hb.2.2.2⟩
    have hla : laT (tsZ (M0 39)) (r + zrow d) (c + zcol d) = decide (Q 39 (3 + (Q 39 1 * (r + zrow d) + (c + zcol d))) = 1) := by
      rw [laT_Z, if_pos hb, e39]
    by_cases hl : decide (Q 39 (3 + (Q 39 1 * (r + zrow d) + (c + zcol d))) = 1) = l
    · by_cases hs : Q 47 (Q 39 1 * (r + zrow d) + (c + zcol d)) = -6
      · have eb : bsR (frE l r c i d Q) = zbE (tsZ (M0 39)) l r c (Q 47 (Q 46 i) + 1) d (bsR Q) := by
          rw [frE_y hin hs hl]
          unfold zbE
          rw [if_pos (hla.trans hl), ← e39]
          exact bsR_rh h.2.1 hin hs (by omega)
        rw [← eb] at hE
        have hne : Q 46 i ≠ Q 39 1 * (r + zrow d) + (c + zcol d) := fun e => by rw [← e] at hs; omega
        rw [frE_y hin hs hl] at hE ⊢
        refine ⟨⟨hE, by rw [rhB_12]; have := h.2.1; omega, fun k b1 b2 b3 => (rhB_off b1 b2 b3).trans (h.2.2.1 k b1 b2 b3), fun z b => (rhB_38 b).trans (h.2.2.2.1 z b), fun j b1 b2 => ?_, fun z b1 b2 => ?_⟩, by rw [rhB_12]; omega, by rw [← eb, frE_y hin hs hl], by rw [rhB_46, zup_off (by omega)], by rw [rhB_47, zup_off hne]⟩
        · rw [rhB_12] at b2
          rw [rhB_46]
          by_cases z : j = Q 38 12
          · rw [z, zup_at, e39]; exact ⟨ix.1, ix.2.1⟩
          · rw [zup_off z]; exact h.2.2.2.2.1 j b1 (by omega)
        · rw [rhB_47]
          by_cases y : z = Q 39 1 * (r + zrow d) + (c + zcol d)
          · rw [y, zup_at]
            have h9 := zbI_le hE
            have h8 : (rhB Q (Q 39 1 * (r + zrow d) + (c + zcol d)) (Q 47 (Q 46 i) + 1) 38 12).toNat ≤ 144 := h9
            rw [rhB_12] at h8
            omega
          · rw [zup_off y]; exact h.2.2.2.2.2 z b1 b2
      · have e0 : (bsR Q).1 (r + zrow d) (c + zcol d) ≠ -1 := by
          show (if inT (tsZ (Q 39)) (r + zrow d) (c + zcol d) then (if Q 47 (Q 39 1 * (r + zrow d) + (c + zcol d)) = -6 then -1 else Q 47 (Q 39 1 * (r + zrow d) + (c + zcol d))) else -1) ≠ -1
          rw [if_pos hin, if_neg hs]
          have ix2 := ix
          rw [← e39] at ix2
          have hpp : Q 39 0 * Q 39 1 = M0 39 0 * M0 39 1 := by rw [e39]
          have := h.2.2.2.2.2 _ ix2.1 (by omega)
          omega
        rw [frE_2 hs]
        refine ⟨h, Int.le_refl _, ?_, rfl, rfl⟩
        unfold zbE zbR
        rw [if_pos (hla.trans hl), if_neg (fun z => e0 z.2)]
    · rw [frE_3 hl]
      refine ⟨h, Int.le_refl _, ?_, rfl, rfl⟩
      unfold zbE
      rw [if_neg (fun z => hl (hla.symm.trans z))]
  · have hf : inT (tsZ (Q 39)) (r + zrow d) (c + zcol d) = false := by simpa using hin
    rw [frE_1 hf]
    refine ⟨h, Int.le_refl _, ?_, rfl, rfl⟩
    unfold zbE zbR
    rw [← e39]
    split
    · rw [if_neg (fun z => hin z.1)]
    · rfl
def nbR (M : Mem) (l : Bool) (e i n : Nat) : Mem := zrep (fun (j : Nat) (Q : Mem) => frE l (M 46 i / M 39 1) (M 46 i % M 39 1) i ((e * j : Nat) : Int) Q) n M
theorem nbR_P {l : Bool} {m0 : Nat} {M0 M : Mem} {e i : Nat} (hZ : zRf (M0 39)) (h : srI l m0 M0 M) (hi : (i : Int) < M 38 12) : ∀ n : Nat, srI l m0 M0 (nbR M l e i n) ∧ M 38 12 ≤ nbR M l e i n 38 12 ∧ bsR (nbR M l e i n) = zbW (tsZ (M0 39)) l e i n (bsR M) ∧ nbR M l e i n 46 i = M 46 i ∧ nbR M l e i n 47 (M 46 i) = M 47 (M 46 i)
  | 0 => ⟨h, Int.le_refl _, rfl, rfl, rfl⟩
  | n + 1 => by
    obtain ⟨p1, p2, p3, p4, p5⟩ := nbR_P (e := e) hZ h hi n
    have e39 := srI_39 h
    have f := frE_P (r := M 46 i / M 39 1) (c := M 46 i % M 39 1) (d := ((e * n : Nat) : Int)) hZ p1 (show (i : Int) < nbR M l e i n 38 12 by omega)
    have hk := bsR_k hZ h hi
    refine ⟨f.1, Int.le_trans p2 f.2.1, ?_, f.2.2.2.1.trans p4, ?_⟩
    · refine f.2.2.1.trans ?_
      rw [p3, p4, p5, ← hk.1]
      rfl
    · have g := f.2.2.2.2
      rw [p4] at g
      exact g.trans p5
def frG (l : Bool) (e i : Nat) (Q : Mem) : Mem := if (i : Int) < Q 38 12 then nbR Q l e i (8 / e) else Q
theorem frG_P {l : Bool} {m0 : Nat} {M0 M : Mem} {e i : Nat} (hZ : zRf (M0 39)) (h : srI l m0 M0 M) : srI l m0 M0 (frG l e i M) ∧ bsR (frG l e i M) = zbG (tsZ (M0 39)) l e i (bsR M) := by
  have h2 := h.2.1
  unfold frG zbG
  by_cases q : (i : Int) < M 38 12
  · have p := nbR_P (e := e) hZ h q (8 / e)
    rw [if_pos q, if_pos (show i < (bsR M).2.2.1 by show i < (M 38 12).toNat; omega)]
    exact ⟨p.1, p.2.2.1⟩
  · rw [if_neg q, if_neg (show ¬ i < (bsR M).2.2.1 by show ¬ i < (M 38 12).toNat; omega)]
    exact ⟨h, rfl⟩
def frS (M : Mem) (k : Int) : Mem := zup (zup (zup (filM M 47 144 (-6)) 47 k 0) 46 0 k) 38 12 1
def frM (M : Mem) (k : Int) (l : Bool) (e n : Nat) : Mem := zrep (frG l e) n (frS M k)
/-- nothing is reached -/
def zb0 : zBs := (fun _ _ => -1, fun _ => (0, 0), 0, false)
/-- two states of spreading that differ in nothing but in what lies behind the queue's end -/
def zbQ (s s' : zBs) : Prop := s.1 = s'.1 ∧ s.2.2 = s'.2.2 ∧ ∀ i : Nat, i < s.2.2.1 → s.2.1 i = s'.2.1 i
theorem frS_off {M : Mem} {k : Int} {i : Nat} (h1 : i ≠ 38) (h2 : i ≠ 46) (h3 : i ≠ 47) : frS M k i = M i := by
  funext z
  unfold frS
  rw [zup_ne h1, zup_ne h2, zup_ne h3]
  simp [filM, h3]
theorem frS_12 {M : Mem} {k : Int} : frS M k 38 12 = 1 := zup_at _ _ _ _
theorem frS_47 {M : Mem} {k z : Int} (h : 0 ≤ z ∧ z < 144) : frS M k 47 z = if z = k then 0 else -6 := by
  unfold frS
  rw [zup_ne (by decide), zup_ne (by decide)]
  by_cases e : z = k
  · rw [if_pos e, e, zup_at]
  · rw [if_neg e, zup_off e]
    simp only [filM]
    rw [if_pos ⟨trivial, h⟩]
theorem frS_46 {M : Mem} {k : Int} : frS M k 46 0 = k := by
  unfold frS
  rw [zup_ne (by decide), zup_at]
theorem frS_38 {M : Mem} {k z : Int} (h : z ≠ 12) : frS M k 38 z = M 38 z := by
  unfold frS
  rw [zup_off h, zup_ne (by decide), zup_ne (by decide)]
  simp [filM]
/-- the start: one place is reached -/
def zb1 (t : TS) (r c : Int) : zBs := (fun r' c' => if r' = r ∧ c' = c then 0 else -1, fun _ => (r, c), 1, zbEd t r c)
theorem frS_b {M : Mem} {k : Int} (hZ : zRf (M 39)) (hk : 0 ≤ k ∧ k < M 39 0 * M 39 1) : zbQ (bsR (frS M k)) (zb1 (tsZ (M 39)) (k / M 39 1) (k % M 39 1)) := by
  obtain ⟨a1, a2, a3, a4, -⟩ := id hZ
  have hw := zhw a1 a2 a3 a4
  have kx := zkx hk (by omega)
  have e39 : frS M k 39 = M 39 := frS_off (by decide) (by decide) (by decide)
  refine ⟨funext fun r => funext fun c => ?_, ?_, fun i hi => ?_⟩
  · show (if inT (tsZ (frS M k 39)) r c then (if frS M k 47 (frS M k 39 1 * r + c) = -6 then -1 else frS M k 47 (frS M k 39 1 * r + c)) else -1) = (if r = k / M 39 1 ∧ c = k % M 39 1 then 0 else -1)
    rw [e39]
    by_cases hi : inT (tsZ (M 39)) r c = true
    · have hb := hi
      rw [inT_Z] at hb
      have hb := of_decide_eq_true hb
      have ix := zix (h := M 39 0) (w := M 39 1) ⟨hb.1, hb.2.1⟩ ⟨hb.2.2.1, hb.2.2.2⟩
      rw [if_pos hi, frS_47 (by omega)]
      by_cases z : r = k / M 39 1 ∧ c = k % M 39 1
      · rw [if_pos z, z.1, z.2, kx.2.2.2.2, if_pos rfl]
        rfl
      · rw [if_neg z, if_neg (show ¬ (M 39 1 * r + c = k) from fun e => z (by rw [← e]; exact ⟨ix.2.2.1.symm, ix.2.2.2.symm⟩))]
        rfl
    · rw [if_neg hi, if_neg (fun z => hi (by rw [z.1, z.2, inT_Z]; exact decide_eq_true ⟨kx.1, kx.2.1, kx.2.2.1, kx.2.2.2.1⟩))]
  · show ((frS M k 38 12).toNat, zbTi (tsZ (frS M k 39)) (fun n => (frS M k 46 n / frS M k 39 1, frS M k 46 n % frS M k 39 1)) (frS M k 38 12).toNat) = (1, zbEd (tsZ (M 39)) (k / M 39 1) (k % M 39 1))
    rw [frS_12, e39]
    show (1, (false || zbEd (tsZ (M 39)) (frS M k 46 0 / M 39 1) (frS M k 46 0 % M 39 1))) = _
    rw [frS_46, Bool.false_or]
  · have h1 : i < (frS M k 38 12).toNat := hi
    rw [frS_12] at h1
    have h0 : i = 0 := by have : i < 1 := h1; omega
    subst h0
    show (frS M k 46 0 / frS M k 39 1, frS M k 46 0 % frS M k 39 1) = (k / M 39 1, k % M 39 1)
    rw [frS_46, e39]
theorem zb1_M {t : TS} {r c : Int} (hr : 0 ≤ r ∧ r < 12) (hc : 0 ≤ c ∧ c < 12) : zbM (zb1 t r c) 144 = 1 := by
  have z0 : ∀ n : Nat, zbM zb0 n = 0 := by
    intro n
    induction n with
    | zero => rfl
    | succ n ih =>
      show zbM zb0 n + (if (-1 : Int) = -1 then 0 else 1) = 0
      rw [ih, if_pos rfl]
  have := zbM_add (s := zb0) (s' := zb1 t r c) (r := r) (c := c) hr.1 hc (fun r' c' n => if_neg n) rfl (by show (if r = r ∧ c = c then (0 : Int) else -1) ≠ -1; rw [if_pos ⟨rfl, rfl⟩]; decide) 144 (by omega)
  rw [this, z0]
theorem frS_I {M : Mem} {k : Int} (hZ : zRf (M 39)) (hk : 0 ≤ k ∧ k < M 39 0 * M 39 1) : srI (decide (M 39 (3 + k) = 1)) 0 M (frS M k) := by
  obtain ⟨a1, a2, a3, a4, -⟩ := id hZ
  have hw := zhw a1 a2 a3 a4
  have kx := zkx hk (by omega)
  have b := frS_b hZ hk
  have e39 : frS M k 39 = M 39 := frS_off (by decide) (by decide) (by decide)
  have h46 : ∀ i : Nat, i < 1 → (bsR (frS M k)).2.1 i = (k / M 39 1, k % M 39 1) := fun i hi => b.2.2 i (by rw [show (bsR (frS M k)).2.2.1 = 1 from congrArg Prod.fst b.2.1]; exact hi)
  refine ⟨⟨?_, fun i hi => ?_, fun r c => ?_⟩, by rw [frS_12]; decide, fun j b1 b2 b3 => frS_off b1 b2 b3, fun z hz => frS_38 hz, fun i b1 b2 => ?_, fun z b1 b2 => ?_⟩
  · rw [show (bsR (frS M k)).2.2.1 = 1 from congrArg Prod.fst b.2.1, zbM_congr (b := zb1 (tsZ (M 39)) (k / M 39 1) (k % M 39 1)) (fun r c => by rw [b.1]), zb1_M (by omega) (by omega)]
  · have hi1 : i < 1 := by rw [← show (bsR (frS M k)).2.2.1 = 1 from congrArg Prod.fst b.2.1]; exact hi
    rw [h46 i hi1, b.1]
    refine ⟨inT_k hZ hk, laT_k hZ hk, ?_⟩
    show 0 ≤ (if k / M 39 1 = k / M 39 1 ∧ k % M 39 1 = k % M 39 1 then (0 : Int) else -1) ∧ (if k / M 39 1 = k / M 39 1 ∧ k % M 39 1 = k % M 39 1 then (0 : Int) else -1) ≤ i
    rw [if_pos ⟨rfl, rfl⟩]
    omega
  · rw [b.1]
    show -1 ≤ (if r = k / M 39 1 ∧ c = k % M 39 1 then (0 : Int) else -1) ∧ (if r = k / M 39 1 ∧ c = k % M 39 1 then (0 : Int) else -1) < 144
    split <;> omega
  · rw [frS_12] at b2
    rw [show i = 0 by omega, frS_46]
    exact hk
  · rw [frS_47 ⟨b1, b2⟩]
    split <;> omega
theorem frM_P {M : Mem} {k : Int} {e : Nat} (hZ : zRf (M 39)) (hk : 0 ≤ k ∧ k < M 39 0 * M 39 1) : ∀ n : Nat,
    srI (decide (M 39 (3 + k) = 1)) 0 M (frM M k (decide (M 39 (3 + k) = 1)) e n) ∧ bsR (frM M k (decide (M 39 (3 + k) = 1)) e n) = zbY (tsZ (M 39)) (decide (M 39 (3 + k) = 1)) e n (bsR (frS M k))
  | 0 => ⟨frS_I hZ hk, rfl⟩
  | n + 1 => by
    have ih := frM_P (e := e) hZ hk n
    have g := frG_P (e := e) (i := n) hZ ih.1
    rw [ih.2] at g
    exact g
theorem frM_stay {M : Mem} {l : Bool} {k : Int} {e N : Nat} (h : frM M k l e N 38 12 ≤ N) (hN : N ≤ 144) : frM M k l e N = frM M k l e 144 := by
  have key : ∀ q : Nat, frM M k l e (N + q) = frM M k l e N := by
    intro q
    induction q with
    | zero => rfl
    | succ q ih =>
      show frG l e (N + q) (frM M k l e (N + q)) = _
      rw [ih]
      exact if_neg (by omega)
  have := key (144 - N)
  rw [show N + (144 - N) = 144 by omega] at this
  exact this.symm
def sfM (M : Mem) (n : Nat) : Mem := zrep (fun (i : Nat) (Q : Mem) => zup Q 51 (M 46 i) (zbz true)) n M
theorem sfM_off {M : Mem} {k : Nat} (h : k ≠ 51) : ∀ n : Nat, sfM M n k = M k
  | 0 => rfl
  | n + 1 => by
    show zup (sfM M n) 51 (M 46 n) (zbz true) k = M k
    rw [zup_ne h, sfM_off h n]
def iiM (M : Mem) (n : Nat) : Bool := zrep (fun (i : Nat) (b : Bool) => b && !zbEd (tsZ (M 39)) (M 46 i / M 39 1) (M 46 i % M 39 1)) n true
theorem iiM_eq {M : Mem} : ∀ n : Nat, iiM M n = !zbTi (tsZ (M 39)) (fun n => (M 46 n / M 39 1, M 46 n % M 39 1)) n
  | 0 => rfl
  | n + 1 => by
    show (iiM M n && !zbEd (tsZ (M 39)) (M 46 n / M 39 1) (M 46 n % M 39 1)) = !(zbTi (tsZ (M 39)) (fun n => (M 46 n / M 39 1, M 46 n % M 39 1)) n || zbEd (tsZ (M 39)) (M 46 n / M 39 1) (M 46 n % M 39 1))
    rw [iiM_eq n, Bool.not_or]
