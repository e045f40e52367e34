/-! ===== a region, as both tell it ===== -/
noncomputable def zFr (t : TS) (r c : Int) (e : Nat) : zBs := zbY t (laT t r c) e 144 (zb1 t r c)
def zbP0 (t : TS) (l : Bool) (r c : Int) (s : zBs) : Prop := zbSm t l (fun _ _ => False) s (zb1 t r c)
theorem zCl_0 {t : TS} {e : Nat} : zCl t e (fun _ _ => False) := fun _ _ _ _ _ _ _ h => h
theorem zb1_I {t : TS} {r c : Int} (ht : tH t ≤ 12 ∧ tW t ≤ 12) (hi : inT t r c = true) : zbI t (laT t r c) 0 (zb1 t r c) := by
  have hb := of_decide_eq_true hi
  refine ⟨?_, fun i _ => ⟨hi, rfl, ?_⟩, fun r' c' => ?_⟩
  · rw [zb1_M (by omega) (by omega)]
    rfl
  · show 0 ≤ (if r = r ∧ c = c then (0 : Int) else -1) ∧ (if r = r ∧ c = c then (0 : Int) else -1) ≤ i
    rw [if_pos ⟨rfl, rfl⟩]
    omega
  · show -1 ≤ (if r' = r ∧ c' = c then (0 : Int) else -1) ∧ (if r' = r ∧ c' = c then (0 : Int) else -1) < 144
    split <;> omega
theorem zb1_Sm {t : TS} {r c : Int} {V : Int → Int → Prop} {s : zBs} (hi : inT t r c = true) (hV : ¬ V r c) (h1 : s.1 r c = 0) (h2 : s.2.2 = (1, zbEd t r c)) (h3 : s.2.1 0 = (r, c)) (h4 : ∀ r' c' : Int, inT t r' c' = true → ¬ (r' = r ∧ c' = c) → (V r' c' → s.1 r' c' ≠ -1) ∧ (¬ V r' c' → s.1 r' c' = -1)) : zbSm t (laT t r c) V s (zb1 t r c) := by
  refine ⟨h2, fun i hi2 => ?_, fun r' c' hi' => ?_, fun r' c' hn => ?_⟩
  · have h0 : i = 0 := by have : i < 1 := hi2; omega
    subst h0
    exact ⟨h3, hi, rfl, hV⟩
  · show (V r' c' → (if r' = r ∧ c' = c then (0 : Int) else -1) = -1 ∧ s.1 r' c' ≠ -1) ∧ (¬ V r' c' → s.1 r' c' = (if r' = r ∧ c' = c then 0 else -1))
    by_cases q : r' = r ∧ c' = c
    · rw [if_pos q, q.1, q.2]
      exact ⟨fun h => absurd h hV, fun _ => h1⟩
    · rw [if_neg q]
      exact ⟨fun h => ⟨rfl, (h4 r' c' hi' q).1 h⟩, (h4 r' c' hi' q).2⟩
  · have hn' : (if r' = r ∧ c' = c then (0 : Int) else -1) ≠ -1 := hn
    by_cases q : r' = r ∧ c' = c
    · exact ⟨0, Nat.zero_lt_one, by rw [q.1, q.2]; rfl⟩
    · rw [if_neg q] at hn'
      exact absurd rfl hn'
/-- the class: what was reached before -/
def vX (t : TS) (M : Mem) (r c : Int) : Prop := inT t r c = true ∧ M 35 (r * 12 + c) ≠ -1
theorem bsX_1 {M : Mem} {r c : Int} (h : 0 ≤ r ∧ r < 12 ∧ 0 ≤ c ∧ c < 12) : (bsX M).1 r c = M 35 (r * 12 + c) := if_pos h
theorem X_start {M : Mem} {r c : Int} (hS : zSk M 0) (hi : inT (tsX M 0) r c = true) (hs : M 35 (r * 12 + c) = -1) : zbSm (tsX M 0) (laT (tsX M 0) r c) (vX (tsX M 0) M) (zbR (tsX M 0) r c 0 (bsX (ov0 M))) (zb1 (tsX M 0) r c) := by
  obtain ⟨a1, a2, a3, a4, -⟩ := hS
  have hb := hi
  rw [inT_X] at hb
  have hb := of_decide_eq_true hb
  have e35 : ov0 M 35 = M 35 := ov0_off (by decide)
  have e2 : ov0 M 33 2 = 0 := by unfold ov0; rw [zup_off (by decide), zup_at]
  have e3 : ov0 M 33 3 = 0 := by unfold ov0; rw [zup_at]; rfl
  have e1 : ∀ r' c' : Int, inT (tsX M 0) r' c' = true → (bsX (ov0 M)).1 r' c' = M 35 (r' * 12 + c') := fun r' c' h => by
    have h' := h
    rw [inT_X] at h'
    have h' := of_decide_eq_true h'
    rw [bsX_1 (by omega), e35]
  have eR : zbR (tsX M 0) r c 0 (bsX (ov0 M)) = (fun r' c' => if r' = r ∧ c' = c then 0 else (bsX (ov0 M)).1 r' c', fun n => if n = (bsX (ov0 M)).2.2.1 then (r, c) else (bsX (ov0 M)).2.1 n, (bsX (ov0 M)).2.2.1 + 1, (bsX (ov0 M)).2.2.2 || zbEd (tsX M 0) r c) := if_pos ⟨hi, (e1 r c hi).trans hs⟩
  have en : (bsX (ov0 M)).2.2.1 = 0 := by show (ov0 M 33 2).toNat = 0; rw [e2]; rfl
  have ee : (bsX (ov0 M)).2.2.2 = false := by show decide (ov0 M 33 3 = 1) = false; rw [e3]; rfl
  rw [eR]
  refine zb1_Sm hi (fun h => h.2 hs) ?_ ?_ ?_ (fun r' c' hi' q => ?_)
  · show (if r = r ∧ c = c then (0 : Int) else _) = 0
    rw [if_pos ⟨rfl, rfl⟩]
  · show ((bsX (ov0 M)).2.2.1 + 1, (bsX (ov0 M)).2.2.2 || zbEd (tsX M 0) r c) = (1, zbEd (tsX M 0) r c)
    rw [en, ee, Bool.false_or]
  · show (if 0 = (bsX (ov0 M)).2.2.1 then (r, c) else (bsX (ov0 M)).2.1 0) = (r, c)
    rw [en, if_pos rfl]
  · show (vX (tsX M 0) M r' c' → (if r' = r ∧ c' = c then (0 : Int) else (bsX (ov0 M)).1 r' c') ≠ -1) ∧ (¬ vX (tsX M 0) M r' c' → (if r' = r ∧ c' = c then 0 else (bsX (ov0 M)).1 r' c') = -1)
    rw [if_neg q, e1 r' c' hi']
    exact ⟨fun h => h.2, fun h => Classical.not_not.mp (fun z => h ⟨hi', z⟩)⟩
theorem bsX_c {Q : Mem} : (bsX Q).2.2.1 = (Q 33 2).toNat := rfl
theorem bsX_e {Q : Mem} : (bsX Q).2.2.2 = decide (Q 33 3 = 1) := rfl
theorem bsR_c {Q : Mem} : (bsR Q).2.2.1 = (Q 38 12).toNat := rfl
theorem bsR_2 {Q : Mem} {i : Nat} : (bsR Q).2.1 i = (Q 46 i / Q 39 1, Q 46 i % Q 39 1) := rfl
/-- the class over a region -/
theorem X_reg {M : Mem} {r c : Int} {e : Nat} (he : e = 1 ∨ e = 2) (hS : zSk M 0) (hv : ∀ z : Int, 0 ≤ z → z < 144 → -1 ≤ M 35 z ∧ M 35 z < 144) (hi : inT (tsX M 0) r c = true) (hs : M 35 (r * 12 + c) = -1) (hC : zCl (tsX M 0) e (vX (tsX M 0) M)) :
    ovX M (laT (tsX M 0) r c) r c e 144 33 2 = (((zFr (tsX M 0) r c e).2.2.1 : Nat) : Int) ∧ ovX M (laT (tsX M 0) r c) r c e 144 33 3 = zbz (zFr (tsX M 0) r c e).2.2.2
    ∧ (∀ r' c' : Int, inT (tsX M 0) r' c' = true → (¬ vX (tsX M 0) M r' c' → ovX M (laT (tsX M 0) r c) r c e 144 35 (r' * 12 + c') = (zFr (tsX M 0) r c e).1 r' c') ∧ (vX (tsX M 0) (ovX M (laT (tsX M 0) r c) r c e 144) r' c' ↔ (vX (tsX M 0) M r' c' ∨ (zFr (tsX M 0) r c e).1 r' c' ≠ -1)))
    ∧ zCl (tsX M 0) e (vX (tsX M 0) (ovX M (laT (tsX M 0) r c) r c e 144)) := by
  unfold zFr
  have hS' := hS
  obtain ⟨a1, a2, a3, a4, -⟩ := hS'
  have h0 := X_start hS hi hs
  have hsm := zbSm_Y hC h0 144
  have p := ovX_P (r := r) (c := c) (e := e) hS hv 144
  rw [← p.2] at hsm
  have hI := zb1_I (t := tsX M 0) (r := r) (c := c) ⟨a2, a4⟩ hi
  have hcl := zbCl (t := tsX M 0) he ⟨a2, a4⟩ hC hI h0
  obtain ⟨m1, m2, m3, m4⟩ := hsm
  have c1 := congrArg Prod.fst m1
  have c2 := congrArg Prod.snd m1
  rw [bsX_c] at c1
  rw [bsX_e] at c2
  have hst : ∀ r' c' : Int, inT (tsX M 0) r' c' = true → (¬ vX (tsX M 0) M r' c' → ovX M (laT (tsX M 0) r c) r c e 144 35 (r' * 12 + c') = (zbY (tsX M 0) (laT (tsX M 0) r c) e 144 (zb1 (tsX M 0) r c)).1 r' c') ∧ (vX (tsX M 0) (ovX M (laT (tsX M 0) r c) r c e 144) r' c' ↔ (vX (tsX M 0) M r' c' ∨ (zbY (tsX M 0) (laT (tsX M 0) r c) e 144 (zb1 (tsX M 0) r c)).1 r' c' ≠ -1)) := fun r' c' hi' => by
    have g := m3 r' c' hi'
    have h' := hi'
    rw [inT_X] at h'
    have h' := of_decide_eq_true h'
    rw [bsX_1 (by omega)] at g
    refine ⟨g.2, ⟨fun z => ?_, fun z => ⟨hi', ?_⟩⟩⟩
    · by_cases q : vX (tsX M 0) M r' c'
      · exact Or.inl q
      · refine Or.inr ?_
        have := g.2 q
        intro w
        exact z.2 (this.trans w)
    · by_cases q : vX (tsX M 0) M r' c'
      · exact (g.1 q).2
      · rw [g.2 q]
        exact z.resolve_left q
  refine ⟨?_, ?_, hst, ?_⟩
  · have := p.1.2.1
    omega
  · rw [← c2]
    exact zbz_of p.1.2.2.1
  · intro r' c' j hj hi1 hi2 hl hv2
    exact ((hst r' c' hi1).2).mpr (hcl r' c' j hj hi1 hi2 hl (((hst _ _ hi2).2).mp hv2))
/-- what a region is: its places are those of its queue -/
theorem zFr_q {t : TS} {r c : Int} {e : Nat} (ht : tH t ≤ 12 ∧ tW t ≤ 12) (hi : inT t r c = true) : (∀ r' c' : Int, (zFr t r c e).1 r' c' ≠ -1 ↔ ∃ i : Nat, i < (zFr t r c e).2.2.1 ∧ (zFr t r c e).2.1 i = (r', c')) ∧ (∀ r' c' : Int, (zFr t r c e).1 r' c' ≠ -1 → inT t r' c' = true ∧ laT t r' c' = laT t r c) ∧ (zFr t r c e).2.2.1 = zbM (zFr t r c e) 144 := by
  unfold zFr
  have hI := (zbY_P (e := e) ht (zb1_I ht hi) 144).1
  have h0 : zbSm t (laT t r c) (fun _ _ => False) (zb1 t r c) (zb1 t r c) := zb1_Sm hi (fun h => h) (if_pos ⟨rfl, rfl⟩) rfl rfl (fun r' c' _ q => ⟨fun h => absurd h id, fun _ => if_neg q⟩)
  have hsm := zbSm_Y (e := e) zCl_0 h0 144
  refine ⟨fun r' c' => ⟨fun h => hsm.2.2.2 r' c' h, fun ⟨i, h1, h2⟩ => ?_⟩, fun r' c' h => ?_, ?_⟩
  · have g := hI.2.1 i h1
    rw [h2] at g
    have g3 := g.2.2.1
    dsimp only at g3
    omega
  · obtain ⟨i, h1, h2⟩ := hsm.2.2.2 r' c' h
    have g := hI.2.1 i h1
    rw [h2] at g
    exact ⟨g.1, g.2.1⟩
  · exact (Nat.add_zero _).symm.trans hI.1
