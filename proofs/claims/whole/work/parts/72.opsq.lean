/-! ===== the questions: one answer, and what stands stays ===== -/
theorem SR_t {M : Mem} (h : SR M) : tsX M 0 = tsZ (M 39) := h.2.2.1
theorem SR_S {M : Mem} (h : SR M) : zSk M 0 := h.1.1.2.1 0 (by decide)
theorem SR_Z {M : Mem} (h : SR M) : zRf (M 39) := h.2.1.1.2.1
theorem SR_O {M : Mem} (h : SR M) : TOk (tsZ (M 39)) := h.2.1.1.2.2.1
theorem zop_rows {M : Mem} (h : SR M) : zgR (xM_rows M) ∧ rR_rows (xM_rows M) = xR_rows M ∧ SR (rM_rows (xM_rows M)) := ⟨h.2.1, congrArg tH (SR_t h).symm, h⟩
theorem zop_columns {M : Mem} (h : SR M) : zgR (xM_columns M) ∧ rR_columns (xM_columns M) = xR_columns M ∧ SR (rM_columns (xM_columns M)) := ⟨h.2.1, congrArg tW (SR_t h).symm, h⟩
theorem zop_tile {M : Mem} (h : SR M) (r c p : Int) : zgR (xM_tile M r c p) ∧ rR_tile (xM_tile M r c p) r c p = xR_tile M r c p ∧ SR (rM_tile (xM_tile M r c p) r c p) := ⟨h.2.1, congrArg (fun t => tlA t r c p) (SR_t h).symm, h⟩
theorem zop_faults {M : Mem} (h : SR M) : zgR (xM_faults M) ∧ rR_faults (xM_faults M) = xR_faults M ∧ SR (rM_faults (xM_faults M)) := ⟨h.2.1, congrArg ftA (SR_t h).symm, h⟩
theorem zop_firstFault {M : Mem} (h : SR M) : zgR (xM_firstFault M) ∧ rR_firstFault (xM_firstFault M) = xR_firstFault M ∧ SR (rM_firstFault (xM_firstFault M)) := ⟨h.2.1, congrArg ffA (SR_t h).symm, h⟩
theorem zop_maskOf {M : Mem} (h : SR M) (s : Int) : zgR (xM_maskOf M s) ∧ rR_maskOf (xM_maskOf M s) s = xR_maskOf M s ∧ SR (rM_maskOf (xM_maskOf M s) s) := ⟨h.2.1, rfl, h⟩
theorem zop_shapeOf {M : Mem} (h : SR M) (s : Int) : zgR (xM_shapeOf M s) ∧ rR_shapeOf (xM_shapeOf M s) s = xR_shapeOf M s ∧ SR (rM_shapeOf (xM_shapeOf M s) s) := ⟨h.2.1, rfl, h⟩
theorem zop_turned {M : Mem} (h : SR M) (s k : Int) : zgR (xM_turned M s k) ∧ rR_turned (xM_turned M s k) s k = xR_turned M s k ∧ SR (rM_turned (xM_turned M s k) s k) := ⟨h.2.1, rfl, h⟩
theorem zop_mirrored {M : Mem} (h : SR M) (s : Int) : zgR (xM_mirrored M s) ∧ rR_mirrored (xM_mirrored M s) s = xR_mirrored M s ∧ SR (rM_mirrored (xM_mirrored M s) s) := ⟨h.2.1, rfl, h⟩
theorem zop_count {M : Mem} (h : SR M) (s : Int) : zgR (xM_count M s) ∧ rR_count (xM_count M s) s = xR_count M s ∧ SR (rM_count (xM_count M s) s) := ⟨h.2.1, congrArg (fun t => cnA t s) (SR_t h).symm, h⟩
theorem zop_shapes {M : Mem} (h : SR M) : zgR (xM_shapes M) ∧ rR_shapes (xM_shapes M) = xR_shapes M ∧ SR (rM_shapes (xM_shapes M)) := ⟨h.2.1, congrArg spA (SR_t h).symm, h⟩
theorem zop_land {M : Mem} (h : SR M) : zgR (xM_land M) ∧ rR_land (xM_land M) = xR_land M ∧ SR (rM_land (xM_land M)) := ⟨h.2.1, congrArg lnT (SR_t h).symm, h⟩
theorem zop_landShare {M : Mem} (h : SR M) : zgR (xM_landShare M) ∧ rR_landShare (xM_landShare M) = xR_landShare M ∧ SR (rM_landShare (xM_landShare M)) := ⟨h.2.1, congrArg (fun t => zshA (lnT t) (tH t * tW t)) (SR_t h).symm, h⟩
theorem zop_coast {M : Mem} (h : SR M) : zgR (xM_coast M) ∧ rR_coast (xM_coast M) = xR_coast M ∧ SR (rM_coast (xM_coast M)) := by
  refine ⟨h.2.1, ?_, h⟩
  show coB (tsZ (M 39)) = coA (tsX M 0)
  rw [coA_eq, SR_t h]
  rfl
theorem zop_coastIfChanged {M : Mem} (h : SR M) (r c : Int) : zgR (xM_coastIfChanged M r c) ∧ rR_coastIfChanged (xM_coastIfChanged M r c) r c = xR_coastIfChanged M r c ∧ SR (rM_coastIfChanged (xM_coastIfChanged M r c) r c) := by
  refine ⟨h.2.1, ?_, h⟩
  show (if inT (tsZ (M 39)) r c = true then coB (tsZ ((zup M 39 (3 + (M 39 1 * r + c)) (1 - M 39 (3 + (M 39 1 * r + c)))) 39)) - coB (tsZ (M 39)) + 100 else -1) = ccA (tsX M 0) r c
  rw [SR_t h]
  by_cases hi : inT (tsZ (M 39)) r c = true
  · rw [if_pos hi]
    exact cc_R (SR_Z h) hi
  · rw [if_neg hi]
    unfold ccA
    rw [if_neg hi]
theorem zop_needs {M : Mem} (h : SR M) (r c s : Int) : zgR (xM_needs M r c s) ∧ rR_needs (xM_needs M r c s) r c s = xR_needs M r c s ∧ SR (rM_needs (xM_needs M r c s) r c s) := by
  refine ⟨h.2.1, ?_, h⟩
  show (if inT (tsZ (M 39)) r c = true ∧ 0 ≤ s ∧ s < 47 then neB (tsZ (M 39)) r c s 8 else -1) = neA (tsX M 0) r c s
  rw [SR_t h, needs_eq]
/-! over regions -/
theorem rgP_off {M Q : Mem} (h : rgP (fgX M) Q) : ∀ k : Nat, k ≠ 33 → k ≠ 34 → k ≠ 35 → Q k = M k := fun k a b c => (h.2.2.1 k a b c).trans (fgX_off c)
theorem zgR_off {M M1 : Mem} (h : zgR M) (e : ∀ k : Nat, k ≠ 33 → k ≠ 34 → k ≠ 35 → M1 k = M k) : zgR M1 := GR_congr (eqR_hi (fun k hk => e k (by omega) (by omega) (by omega))) h
theorem srP_eq {M Q : Mem} (h : srP (snM M) Q) : eqR M Q := ⟨fun k a b c d e f g i j => (h.1 k (by omega) c d i).trans (snM_off i), fun z a _ => (h.2.1 z a).trans (congrFun (snM_off (by decide)) z), fun w z a b => by rw [h.1 52 (by decide) (by decide) (by decide) (by decide), snM_off (by decide)]; exact w z a b⟩
theorem srP_lo {M Q : Mem} (h : srP (snM M) Q) : ∀ k : Nat, k < 38 → Q k = M k := fun k hk => (h.1 k (by omega) (by omega) (by omega) (by omega)).trans (snM_off (by omega))
theorem regs_SR {M : Mem} {e : Nat} {l : Bool} {g : Int → Int → Int → Int → Int × Int → Int × Int} {a : Int × Int} (h : SR M) (he : e = 1 ∨ e = 2) (M1 : Mem) (h1 : M1 = (zrep (rgO l e g (M 0 1).toNat) (M 0 0).toNat (fgX M, a)).1) :
    zgR M1 ∧ (zrep (rgR l e g) (M1 39 0 * M1 39 1).toNat (snM M1, a)).2 = (zrep (rgO l e g (M 0 1).toNat) (M 0 0).toNat (fgX M, a)).2 ∧ SR (zrep (rgR l e g) (M1 39 0 * M1 39 1).toNat (snM M1, a)).1 := by
  have p : rgP (fgX M) M1 := by
    rw [h1]
    exact zrep_inv (P := fun q : Mem × (Int × Int) => rgP (fgX M) q.1) (fgX_P (SR_S h)) _ (fun _ _ _ hx => rgO_P hx)
  have e1 := rgP_off p
  have hg := zgR_off h.2.1 e1
  have e39 := e1 39 (by decide) (by decide) (by decide)
  have hZ : zRf (M1 39) := hg.1.2.1
  have hs : srP (snM M1) (zrep (rgR l e g) (M1 39 0 * M1 39 1).toNat (snM M1, a)).1 := rgRs_P (q := (snM M1, a)) (by rw [snM_off (by decide)]; exact hZ) snM_P (by rw [snM_off (by decide)]; exact Nat.le_refl _)
  refine ⟨hg, ?_, SR_q h e1 (srP_eq hs) (srP_lo hs)⟩
  exact (regs_eq (t := tsX M 0) he (SR_S h) hZ rfl (by rw [e39]; exact (SR_t h).symm)).symm
theorem zop_islands {M : Mem} (h : SR M) : zgR (xM_islands M) ∧ rR_islands (xM_islands M) = xR_islands M ∧ SR (rM_islands (xM_islands M)) := by
  have g := regs_SR (e := 1) (l := true) (g := gIs) (a := ((0 : Int), (0 : Int))) h (Or.inl rfl) _ rfl
  exact ⟨g.1, congrArg Prod.fst g.2.1, g.2.2⟩
theorem zop_lakes {M : Mem} (h : SR M) : zgR (xM_lakes M) ∧ rR_lakes (xM_lakes M) = xR_lakes M ∧ SR (rM_lakes (xM_lakes M)) := by
  have g := regs_SR (e := 2) (l := false) (g := gLk) (a := ((0 : Int), (0 : Int))) h (Or.inr rfl) _ rfl
  exact ⟨g.1, congrArg Prod.fst g.2.1, g.2.2⟩
theorem zop_largestIsland {M : Mem} (h : SR M) : zgR (xM_largestIsland M) ∧ rR_largestIsland (xM_largestIsland M) = xR_largestIsland M ∧ SR (rM_largestIsland (xM_largestIsland M)) := by
  have g := regs_SR (e := 1) (l := true) (g := gLg) (a := ((0 : Int), (-6 : Int))) h (Or.inl rfl) _ rfl
  exact ⟨g.1, congrArg Prod.snd g.2.1, g.2.2⟩
theorem srI_eq {M Q : Mem} {l : Bool} {m0 : Nat} (h : srI l m0 M Q) : eqR M Q ∧ ∀ k : Nat, k < 38 → Q k = M k := ⟨⟨fun k a b c d e f g i j => h.2.2.1 k (by omega) c d, fun z a _ => h.2.2.2.1 z a, fun w z a b => by rw [h.2.2.1 52 (by decide) (by decide) (by decide)]; exact w z a b⟩, fun k hk => h.2.2.1 k (by omega) (by omega) (by omega)⟩
theorem one_SR {M M1 : Mem} {k : Int} {l : Bool} {e : Nat} (h : SR M) (e1 : ∀ k : Nat, k ≠ 33 → k ≠ 34 → k ≠ 35 → M1 k = M k) (hk : 0 ≤ k ∧ k < M1 39 0 * M1 39 1) (hl : decide (M1 39 (3 + k) = 1) = l) : SR (frM M1 k l e 144) := by
  have hg := zgR_off h.2.1 e1
  have f := srI_eq (frM_ok (e := e) hg.1.2.1 hk hl)
  exact SR_q h e1 f.1 f.2
theorem inT_at {f : Int → Int} {r c : Int} (hi : inT (tsZ f) r c = true) : 0 ≤ f 1 * r + c ∧ f 1 * r + c < f 0 * f 1 := by
  rw [inT_Z] at hi
  have hb := of_decide_eq_true hi
  have ix := zix (h := f 0) (w := f 1) ⟨hb.1, hb.2.1⟩ ⟨hb.2.2.1, hb.2.2.2⟩
  exact ⟨ix.1, ix.2.1⟩
theorem zop_region {M : Mem} (h : SR M) (r c : Int) (b : Bool) : zgR (xM_region M r c b) ∧ rR_region (xM_region M r c b) r c b = xR_region M r c b ∧ SR (rM_region (xM_region M r c b) r c b) := by
  have e1 : ∀ k : Nat, k ≠ 33 → k ≠ 34 → k ≠ 35 → xM_region M r c b k = M k := fun k x y z => by
    unfold xM_region
    split
    · exact rgP_off (fgR_P (SR_S h)).1 k x y z
    · rfl
  have hg := zgR_off h.2.1 e1
  have e39 := e1 39 (by decide) (by decide) (by decide)
  have ht : tsX M 0 = tsZ (xM_region M r c b 39) := by rw [e39]; exact SR_t h
  refine ⟨hg, (region_eq (SR_S h) hg.1.2.1 ht).symm, ?_⟩
  show SR (if _ then _ else _)
  by_cases hi : inT (tsZ (xM_region M r c b 39)) r c = true
  · rw [if_pos hi]
    exact one_SR h e1 (inT_at hi) rfl
  · rw [if_neg hi]
    exact SR_q h e1 eqR_rfl (fun _ _ => rfl)
theorem zop_way {M : Mem} (h : SR M) (r c p q : Int) : zgR (xM_way M r c p q) ∧ rR_way (xM_way M r c p q) r c p q = xR_way M r c p q ∧ SR (rM_way (xM_way M r c p q) r c p q) := by
  have e1 : ∀ k : Nat, k ≠ 33 → k ≠ 34 → k ≠ 35 → xM_way M r c p q k = M k := fun k x y z => by
    unfold xM_way
    split
    · exact rgP_off (fgR_P (SR_S h)).1 k x y z
    · rfl
  have hg := zgR_off h.2.1 e1
  have e39 := e1 39 (by decide) (by decide) (by decide)
  have ht : tsX M 0 = tsZ (xM_way M r c p q 39) := by rw [e39]; exact SR_t h
  refine ⟨hg, (way_eq (SR_S h) hg.1.2.1 ht).symm, ?_⟩
  show SR (if _ then _ else _)
  by_cases hi : inT (tsZ (xM_way M r c p q 39)) r c = true ∧ inT (tsZ (xM_way M r c p q 39)) p q = true
  · rw [if_pos hi]
    exact one_SR h e1 (inT_at hi.1) rfl
  · rw [if_neg hi]
    exact SR_q h e1 eqR_rfl (fun _ _ => rfl)
