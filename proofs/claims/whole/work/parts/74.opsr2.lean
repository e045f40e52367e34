/-! ===== brush, smooth, turn, fill, restore ===== -/
theorem zop_brush {M : Mem} (h : SR M) (r c k : Int) (b : Bool) : zgR (xM_brush M r c k b) ∧ rR_brush (xM_brush M r c k b) r c k b = xR_brush M r c k b ∧ SR (rM_brush (xM_brush M r c k b) r c k b) := by
  obtain ⟨hI1, ht1, h0, hS0, hS1, hhi⟩ := recF h
  by_cases hc : inT (tsX M 0) r c = true ∧ 0 ≤ k ∧ k ≤ 5
  · have gX := brush_X (t := tsX M 0) (M := recM M) (r := r) (c := c) (k := k) (b := b) ht1 hS0 hc.2.1
    have hQ2 : xM_brush M r c k b = (zrep (brO r c k b) (2 * k + 1).toNat (recM M, 0)).1 := by unfold xM_brush; rw [if_pos hc]
    have hQ3 : xR_brush M r c k b = (zrep (brO r c k b) (2 * k + 1).toNat (recM M, 0)).2 := by unfold xR_brush; rw [if_pos hc.1, if_pos hc.2]
    obtain ⟨g1, g2, g3, g4⟩ := gX
    rw [← hQ2] at g1 g3 g4
    rw [← hQ3] at g2
    have e : ∀ j : Nat, 38 ≤ j → xM_brush M r c k b j = M j := fun j hj => (g4 j (by omega) (by omega)).trans (hhi j hj)
    have hg := zgR_hi h.2.1 e
    have e39 := recR39 e
    have f39 := e 39 (by decide)
    generalize xM_brush M r c k b = Q at g1 g3 g4 e hg e39 f39 ⊢
    obtain ⟨P, hP, hP2⟩ := brush_R (t := tsX M 0) (M := recR Q) (r := r) (c := c) (k := k) (b := b) (by rw [e39]; exact (SR_t h).symm) (by rw [e39]; exact SR_Z h) (by rw [e39]; exact SR_O h)
    have eW : Q 39 1 = tW (tsX M 0) := by rw [f39]; exact (congrArg tW (SR_t h)).symm
    have eH : Q 39 0 = tH (tsX M 0) := by rw [f39]; exact (congrArg tH (SR_t h)).symm
    have cc : inT (tsZ (Q 39)) r c = true ∧ 0 ≤ k ∧ k ≤ 5 := by rw [f39, ← SR_t h]; exact hc
    have eM : rM_brush Q r c k b = (zrep (brR (tW (tsX M 0)) r c k b) (tH (tsX M 0) * tW (tsX M 0)).toNat (recR Q, 0)).1 := by unfold rM_brush; rw [if_pos cc, eW, eH]
    have eR : rR_brush Q r c k b = (zrep (brR (tW (tsX M 0)) r c k b) (tH (tsX M 0) * tW (tsX M 0)).toNat (recR Q, 0)).2 := by unfold rR_brush; rw [if_pos cc.1, if_pos cc.2, eW, eH]
    obtain ⟨p1, p2, p3, p4⟩ := hP
    rw [← eM] at p1 p3 p4
    rw [← eR] at p2
    have hv := tsV_congr (t := tsX M 0) (v := fun _ _ => b) (v' := fun _ _ => b) hP2 (fun _ _ _ _ => rfl)
    exact ⟨hg, by rw [p2, hv.2, ← g2], SR_rec h (fun j _ x y _ _ _ _ _ _ => g4 j x y) g3 (zSk_congr (g4 1 (by decide) (by decide)) (g4 _ (by decide) (by decide)) (g4 _ (by decide) (by decide)) hS1) (fun j _ x _ _ _ _ _ _ => p4 j x) (fun z _ => congrFun (p4 38 (by decide)) z) p3.1 p3.2 (by rw [g1, p1, hv.1])⟩
  · have hQ2 : xM_brush M r c k b = M := by unfold xM_brush; rw [if_neg hc]
    rw [hQ2]
    have hc2 : ¬ (inT (tsZ (M 39)) r c = true ∧ 0 ≤ k ∧ k ≤ 5) := by rw [← SR_t h]; exact hc
    refine ⟨h.2.1, ?_, ?_⟩
    · unfold rR_brush xR_brush
      rw [← SR_t h]
      by_cases q : inT (tsX M 0) r c = true
      · rw [if_pos q, if_pos q, if_neg (fun z => hc ⟨q, z⟩), if_neg (fun z => hc ⟨q, z⟩)]
      · rw [if_neg q, if_neg q]
    · unfold rM_brush
      rw [if_neg hc2]
      exact h
theorem zop_smooth {M : Mem} (h : SR M) (k : Int) : zgR (xM_smooth M k) ∧ rR_smooth (xM_smooth M k) k = xR_smooth M k ∧ SR (rM_smooth (xM_smooth M k) k) := by
  obtain ⟨hI1, ht1, h0, hS0, hS1, hhi⟩ := recF h
  by_cases hc : 1 ≤ k ∧ k ≤ 9
  · have hC0 : zSk (copM (recM M) 1 0 144) 0 := zSk_congr (copM_offf (by decide) (by decide) (by decide)) (copM_offf (by decide) (by decide) (by decide)) (copM_offf (by decide) (by decide) (by decide)) hS0
    have hC1 : zSk (copM (recM M) 1 0 144) 1 := zSk_copM hS0
    have tC0 : tsX (copM (recM M) 1 0 144) 0 = tsX M 0 := (tsX_congr (copM_offf (by decide) (by decide) (by decide)) (copM_offf (by decide) (by decide) (by decide)) (copM_offf (by decide) (by decide) (by decide))).trans ht1
    have tC1 : tsX (copM (recM M) 1 0 144) 1 = tsX M 0 := (tsX_copM hS0).trans ht1
    have hd : 0 ≤ tH (tsX M 0) ∧ 0 ≤ tW (tsX M 0) := by have := SR_S h; exact ⟨by have := this.1; show 0 ≤ M 0 0; omega, by have := this.2.2.1; show 0 ≤ M 0 1; omega⟩
    obtain ⟨P, ⟨g1, g2, g3, g4⟩, gP⟩ := smooth_X (t := tsX M 0) (M := copM (recM M) 1 0 144) (l := k) tC0 hC0 hd
    have hQ2 : xM_smooth M k = (zrep (smO (tsX M 0) k) (tH (tsX M 0)).toNat ((copM (recM M) 1 0 144), 0)).1 := by unfold xM_smooth; rw [if_pos hc, tC1]
    have hQ3 : xR_smooth M k = (zrep (smO (tsX M 0) k) (tH (tsX M 0)).toNat ((copM (recM M) 1 0 144), 0)).2 := by unfold xR_smooth; rw [if_pos hc, tC1]
    rw [← hQ2] at g1 g3 g4
    rw [← hQ3] at g2
    have e : ∀ j : Nat, 38 ≤ j → xM_smooth M k j = M j := fun j hj => (g4 j (by omega) (by omega)).trans ((copM_offf (by omega) (by omega) (by omega)).trans (hhi j hj))
    have hg := zgR_hi h.2.1 e
    have e39 := recR39 e
    have f39 := e 39 (by decide)
    generalize xM_smooth M k = Q at g1 g3 g4 e hg e39 f39 ⊢
    obtain ⟨P', ⟨p1, p2, p3, p4⟩, pP⟩ := smooth_R (t := tsX M 0) (M0 := recR Q) (l := k) (by rw [e39]; exact (SR_t h).symm) (by rw [e39]; exact SR_Z h) (by rw [e39]; exact SR_O h)
    have eW : Q 39 1 = tW (tsX M 0) := by rw [f39]; exact (congrArg tW (SR_t h)).symm
    have eH : Q 39 0 = tH (tsX M 0) := by rw [f39]; exact (congrArg tH (SR_t h)).symm
    have eM : rM_smooth Q k = (zrep (smR k) (tH (tsX M 0) * tW (tsX M 0)).toNat ((smS (recR Q) (tH (tsX M 0) * tW (tsX M 0))), 0)).1 := by unfold rM_smooth; rw [if_pos hc, eW, eH]
    have eR : rR_smooth Q k = (zrep (smR k) (tH (tsX M 0) * tW (tsX M 0)).toNat ((smS (recR Q) (tH (tsX M 0) * tW (tsX M 0))), 0)).2 := by unfold rR_smooth; rw [if_pos hc, eW, eH]
    rw [← eM] at p1 p3 p4
    rw [← eR] at p2
    have hv := tsV_congr (t := tsX M 0) (P := P') (P' := P) (v := fun r c => decide (k ≤ bcZ (arT (tsX M 0) r c) + zbz (laT (tsX M 0) r c))) (v' := fun r c => decide (k ≤ bcZ (arT (tsX M 0) r c) + zbz (laT (tsX M 0) r c))) (fun r c hi => ⟨fun _ => gP r c hi, fun _ => (pP r c hi).mpr trivial⟩) (fun _ _ _ _ => rfl)
    exact ⟨hg, by rw [p2, hv.2, ← g2], SR_rec h (fun j x0 x y x1 x2 x3 _ _ _ => (g4 j x y).trans (copM_offf x1 x2 x3)) g3 (zSk_congr (g4 1 (by decide) (by decide)) (g4 _ (by decide) (by decide)) (g4 _ (by decide) (by decide)) hC1) (fun j _ x _ _ _ z _ _ => (p4 j x).trans (smS_off z)) (fun z _ => (congrFun (p4 38 (by decide)) z).trans (congrFun (smS_off (by decide)) z)) p3.1 p3.2 (by rw [g1, p1, hv.1])⟩
  · have hQ2 : xM_smooth M k = M := by unfold xM_smooth; rw [if_neg hc]
    rw [hQ2]
    refine ⟨h.2.1, ?_, ?_⟩
    · unfold rR_smooth xR_smooth
      rw [if_neg hc, if_neg hc]
    · unfold rM_smooth
      rw [if_neg hc]
      exact h
def toTn (n : Nat) (t : TS) : TS := zrep (fun _ => toT) n t
theorem turn_Xn {M : Mem} (hS : zSk M 0) : ∀ n : Nat, trP M (zrep trS n M) ∧ tsX (zrep trS n M) 0 = toTn n (tsX M 0)
  | 0 => ⟨⟨hS, fun _ _ _ _ _ _ _ => rfl⟩, rfl⟩
  | n + 1 => by
    have ih := turn_Xn hS n
    refine ⟨trS_P ih.1, ?_⟩
    show tsX (trS n (zrep trS n M)) 0 = toT (toTn n (tsX M 0))
    rw [trS_ts ih.1.1, ih.2]
theorem turn_Rn {M : Mem} (hZ : zRf (M 39)) (hO : TOk (tsZ (M 39))) : ∀ n : Nat, tpP M (zrep (fun _ => trM) n M) ∧ tsZ ((zrep (fun _ => trM) n M) 39) = toTn n (tsZ (M 39)) ∧ TOk (toTn n (tsZ (M 39)))
  | 0 => ⟨⟨hZ, fun _ _ _ _ => rfl⟩, rfl, hO⟩
  | n + 1 => by
    have ih := turn_Rn hZ hO n
    refine ⟨tpP_s ih.1, ?_, TOk_T ih.2.2⟩
    show tsZ (trM (zrep (fun _ => trM) n M) 39) = toT (toTn n (tsZ (M 39)))
    rw [tsZ_tr ih.1.1, ih.2.1]
theorem trS_1 {M : Mem} {i : Nat} (hS : zSk M 0) : zSk (trS i M) 1 := by
  have h0 : zSk (copM M 1 0 144) 0 := zSk_congr (copM_offf (by decide) (by decide) (by decide)) (copM_offf (by decide) (by decide) (by decide)) (copM_offf (by decide) (by decide) (by decide)) hS
  have h1 : zSk (copM M 1 0 144) 1 := zSk_copM hS
  have g := (tuM_P h0 h1).2
  exact zSk_congr (g 1 (by decide) (by decide) (by decide)) (g _ (by decide) (by decide) (by decide)) (g _ (by decide) (by decide) (by decide)) h1
theorem zop_turn {M : Mem} (h : SR M) (k : Int) : zgR (xM_turn M k) ∧ rR_turn (xM_turn M k) k = xR_turn M k ∧ SR (rM_turn (xM_turn M k) k) := by
  obtain ⟨hI1, ht1, h0, hS0, hS1, hhi⟩ := recF h
  by_cases hc : 1 ≤ k ∧ k ≤ 3
  · obtain ⟨⟨g3, g4⟩, g1⟩ := turn_Xn (M := recM M) hS0 k.toNat
    have hQ2 : xM_turn M k = zrep trS k.toNat (recM M) := by unfold xM_turn; rw [if_pos hc]
    have hQ3 : xR_turn M k = zrep trS k.toNat (recM M) 0 0 := by unfold xR_turn; rw [if_pos hc]
    have g5 : zSk (xM_turn M k) 1 := by
      rw [hQ2]
      obtain ⟨n, hn⟩ : ∃ n, k.toNat = n + 1 := ⟨k.toNat - 1, by omega⟩
      rw [hn]
      exact trS_1 (turn_Xn (M := recM M) hS0 n).1.1
    rw [← hQ2] at g1 g3 g4 hQ3
    have e : ∀ j : Nat, 38 ≤ j → xM_turn M k j = M j := fun j hj => (g4 j (by omega) (by omega) (by omega) (by omega) (by omega) (by omega)).trans (hhi j hj)
    have hg := zgR_hi h.2.1 e
    have e39 := recR39 e
    generalize xM_turn M k = Q at g1 g3 g4 g5 e hg e39 hQ3 ⊢
    obtain ⟨⟨p3, p4⟩, p1, p5⟩ := turn_Rn (M := recR Q) (by rw [e39]; exact SR_Z h) (by rw [e39]; exact SR_O h) k.toNat
    have eM : rM_turn Q k = zrep (fun _ => trM) k.toNat (recR Q) := by unfold rM_turn; rw [if_pos hc]
    have eR : rR_turn Q k = (zrep (fun _ => trM) k.toNat (recR Q)) 39 0 := by unfold rR_turn; rw [if_pos hc]
    rw [← eM] at p1 p3 p4 eR
    have hT : tsX Q 0 = tsZ (rM_turn Q k 39) := by rw [g1, p1, e39, ht1, SR_t h]
    exact ⟨hg, by rw [eR, hQ3]; exact (congrArg tH hT).symm, SR_rec h (fun j x0 x9 x18 x1 x10 x19 _ _ _ => g4 j x0 x9 x18 x1 x10 x19) g3 g5 (fun j _ x _ _ _ _ y z => p4 j x y z) (fun z _ => congrFun (p4 38 (by decide) (by decide) (by decide)) z) p3 (by rw [p1]; exact p5) hT⟩
  · have hQ2 : xM_turn M k = M := by unfold xM_turn; rw [if_neg hc]
    rw [hQ2]
    refine ⟨h.2.1, ?_, ?_⟩
    · unfold rR_turn xR_turn
      rw [if_neg hc, if_neg hc]
    · unfold rM_turn
      rw [if_neg hc]
      exact h
theorem zop_fill {M : Mem} (h : SR M) (r c : Int) (b : Bool) : zgR (xM_fill M r c b) ∧ rR_fill (xM_fill M r c b) r c b = xR_fill M r c b ∧ SR (rM_fill (xM_fill M r c b) r c b) := by
  obtain ⟨hI1, ht1, h0, hS0, hS1, hhi⟩ := recF h
  by_cases hi : inT (tsX M 0) r c = true
  · have e00 : recM M 0 0 = M 0 0 := congrFun h0 0
    have e01 : recM M 0 1 = M 0 1 := congrFun h0 1
    -- the class's memory
    have hX : zSk (xM_fill M r c b) 0 ∧ (∀ j : Nat, j ≠ 9 → j ≠ 18 → j ≠ 33 → j ≠ 34 → j ≠ 35 → xM_fill M r c b j = recM M j) := by
      unfold xM_fill
      rw [if_pos hi]
      by_cases hl : laT (tsX M 0) r c = b
      · rw [if_pos hl]
        exact ⟨hS0, fun _ _ _ _ _ _ => rfl⟩
      · rw [if_neg hl]
        have hG := (fgR_P (M := recM M) (r := r) (c := c) (e := 2) hS0).1
        have hP : fiP (fgR (recM M) r c 2) (zrep (fiO (fgR (recM M) r c 2) b (M 0 1).toNat) (M 0 0).toNat (fgR (recM M) r c 2)) := zrep_inv (P := fiP (fgR (recM M) r c 2)) ⟨hG.1, fun _ _ _ => rfl⟩ _ (fun _ _ _ hx => fiO_P hx)
        exact ⟨hP.1, fun j a d x y z => (hP.2 j a d).trans (rgP_off hG j x y z)⟩
    have e : ∀ j : Nat, 38 ≤ j → xM_fill M r c b j = M j := fun j hj => (hX.2 j (by omega) (by omega) (by omega) (by omega) (by omega)).trans (hhi j hj)
    have hg := zgR_hi h.2.1 e
    have e39 := recR39 e
    have f39 := e 39 (by decide)
    have hXM : xM_fill M r c b = (if laT (tsX M 0) r c = b then recM M else zrep (fiO (fgR (recM M) r c 2) b (M 0 1).toNat) (M 0 0).toNat (fgR (recM M) r c 2)) := by unfold xM_fill; rw [if_pos hi]
    have hXR : xR_fill M r c b = (if laT (tsX M 0) r c = b then 0 else zrep (fiO (fgR (recM M) r c 2) b (M 0 1).toNat) (M 0 0).toNat (fgR (recM M) r c 2) 33 2) := by unfold xR_fill; rw [if_pos hi]
    generalize xM_fill M r c b = Q at hX e hg e39 f39 hXM ⊢
    have hin : inT (tsZ (Q 39)) r c = true := by rw [f39, ← SR_t h]; exact hi
    have q39 : recR Q 39 = Q 39 := recR_off (by decide) (by decide)
    have g := fill_eq (M := recM M) (N := recR Q) (t := tsX M 0) (r := r) (c := c) (b := b) hS0 (by rw [e39]; exact SR_Z h) (by rw [e39]; exact SR_O h) ht1 (by rw [e39]; exact (SR_t h).symm) hi (decide (Q 39 (3 + (Q 39 1 * r + c)) = 1)) (by rw [q39])
    rw [q39, e00, e01] at g
    have eM : rM_fill Q r c b = (zrep (ffR (frM (recR Q) (Q 39 1 * r + c) (decide (Q 39 (3 + (Q 39 1 * r + c)) = 1)) 2 144) b) (frM (recR Q) (Q 39 1 * r + c) (decide (Q 39 (3 + (Q 39 1 * r + c)) = 1)) 2 144 38 12).toNat (frM (recR Q) (Q 39 1 * r + c) (decide (Q 39 (3 + (Q 39 1 * r + c)) = 1)) 2 144, 0)).1 := by unfold rM_fill; rw [if_pos hin]
    have eR : rR_fill Q r c b = (zrep (ffR (frM (recR Q) (Q 39 1 * r + c) (decide (Q 39 (3 + (Q 39 1 * r + c)) = 1)) 2 144) b) (frM (recR Q) (Q 39 1 * r + c) (decide (Q 39 (3 + (Q 39 1 * r + c)) = 1)) 2 144 38 12).toNat (frM (recR Q) (Q 39 1 * r + c) (decide (Q 39 (3 + (Q 39 1 * r + c)) = 1)) 2 144, 0)).2 := by unfold rR_fill; rw [if_pos hin]
    rw [← eM, ← eR] at g
    have hkin := inT_at hin
    have hF := frM_ok (M := recR Q) (k := Q 39 1 * r + c) (l := decide (Q 39 (3 + (Q 39 1 * r + c)) = 1)) (e := 2) (by rw [e39]; exact SR_Z h) (by rw [q39]; exact hkin) (by rw [q39])
    have hbr := (ffR_P (b := b) (by rw [srI_39 hF, e39]; exact SR_Z h) (frQ_of hF) (Nat.le_refl _)).2.1
    rw [← eM] at hbr
    have hT : tsX Q 0 = tsZ (rM_fill Q r c b 39) := by
      have hXT := congrArg (fun q => tsX q 0) hXM
      rw [hXT]
      by_cases hl : laT (tsX M 0) r c = b
      · rw [if_pos hl, (g.2.1 hl).1]
        exact ht1
      · rw [if_neg hl]
        exact (g.2.2 hl).2.1
    refine ⟨hg, ?_, SR_rec h (fun j _ x9 x18 _ _ _ x33 x34 x35 => hX.2 j x9 x18 x33 x34 x35) hX.1 (zSk_congr (hX.2 1 (by decide) (by decide) (by decide) (by decide) (by decide)) (hX.2 _ (by decide) (by decide) (by decide) (by decide) (by decide)) (hX.2 _ (by decide) (by decide) (by decide) (by decide) (by decide)) hS1) (fun j x38 x39 _ x46 x47 _ _ _ => (hbr j x39).trans (hF.2.2.1 j x38 x46 x47)) (fun z hz => (congrFun (hbr 38 (by decide)) z).trans (hF.2.2.2.1 z hz)) g.1.1 g.1.2 hT⟩
    rw [hXR]
    by_cases hl : laT (tsX M 0) r c = b
    · rw [if_pos hl, (g.2.1 hl).2]
    · rw [if_neg hl]
      exact (g.2.2 hl).2.2.symm
  · have hQ2 : xM_fill M r c b = M := by unfold xM_fill; rw [if_neg hi]
    rw [hQ2]
    have hin : ¬ inT (tsZ (M 39)) r c = true := by rw [← SR_t h]; exact hi
    refine ⟨h.2.1, ?_, ?_⟩
    · unfold rR_fill xR_fill
      rw [if_neg hi, if_neg hin]
    · unfold rM_fill
      rw [if_neg hin]
      exact h
theorem zop_restore {M : Mem} (h : SR M) : zgR (xM_restore M) ∧ rR_restore (xM_restore M) = xR_restore M ∧ SR (rM_restore (xM_restore M)) := by
  obtain ⟨hI1, ht1, h0, hS0, hS1, hhi⟩ := recF h
  by_cases hc : M 27 4 = 1
  · have hc2 : M 38 4 = 1 := by rw [← h.2.2.2.2.2.1]; exact hc
    have hS2 : zSk (recM M) 2 := hI1.2.1 2 (by decide)
    have hHo := h.1.1.2.2
    have t2 : tsX (recM M) 2 = tsX M 2 := tsX_congr (recM_off hHo (by decide) (by decide) (by omega)) (recM_off hHo (by decide) (by decide) (by omega)) (recM_off hHo (by decide) (by decide) (by omega))
    have hQ2 : xM_restore M = copM (recM M) 0 2 144 := by unfold xM_restore; rw [if_pos hc]
    have hQ3 : xR_restore M = lnT (tsX M 2) := by unfold xR_restore; rw [if_pos hc]
    have e : ∀ j : Nat, 38 ≤ j → xM_restore M j = M j := fun j hj => by
      rw [hQ2]
      exact (copM_offf (by omega) (by omega) (by omega)).trans (hhi j hj)
    have hg := zgR_hi h.2.1 e
    generalize xM_restore M = Q at e hg hQ2 ⊢
    have q38 := e 38 (by decide)
    have q41 := e 41 (by decide)
    have cc : Q 38 4 = 1 := by rw [q38]; exact hc2
    have e41 : recR Q 41 = M 41 := (recR_off (by decide) (by decide)).trans q41
    have hk41 := (h.2.1.2.2.1 hc2)
    have tl : tsX M 2 = tsZ (M 41) := h.2.2.2.2.2.2.1 hc
    have eM : rM_restore Q = rsR Q := by unfold rM_restore; rw [if_pos cc]
    have eR : rR_restore Q = lnT (tsZ (M 41)) := by unfold rR_restore; rw [if_pos cc, q41]
    have ex : ∀ z : Int, 0 ≤ z → z < 291 → rsR Q 39 z = M 41 z := fun z a b => by
      unfold rsR
      rw [mvR_at (by omega), e41]
      congr 1
      omega
    have tR : tsZ (rM_restore Q 39) = tsZ (M 41) := by rw [eM]; exact tsZ_ext ex hk41.1
    refine ⟨hg, by rw [eR, hQ3, tl], SR_rec (M1 := Q) h (fun j a d x _ _ _ _ _ _ => by rw [hQ2]; exact copM_offf a d x) (by rw [hQ2]; exact zSk_copM hS2) (by rw [hQ2]; exact zSk_congr (copM_offf (by decide) (by decide) (by decide)) (copM_offf (by decide) (by decide) (by decide)) (copM_offf (by decide) (by decide) (by decide)) hS1) (fun j _ a _ _ _ _ _ _ => by rw [eM]; exact funext fun z => mvR_off a) (fun z _ => by rw [eM]; exact mvR_off (by decide)) (by rw [eM]; exact zRf_ext ex hk41.1) (by rw [tR]; exact hk41.2) (by rw [tR, hQ2, tsX_copM hS2, t2, tl])⟩
  · have hc2 : ¬ M 38 4 = 1 := by rw [← h.2.2.2.2.2.1]; exact hc
    have hQ2 : xM_restore M = M := by unfold xM_restore; rw [if_neg hc]
    rw [hQ2]
    refine ⟨h.2.1, ?_, ?_⟩
    · unfold rR_restore xR_restore
      rw [if_neg hc, if_neg hc2]
    · unfold rM_restore
      rw [if_neg hc2]
      exact h
