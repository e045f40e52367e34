set_option maxRecDepth 100000 in
set_option maxHeartbeats 4000000 in
theorem ct_X5_region (M : Mem) (hS : zSk M 0) (r : Int) (hb_r : -2147483648 ≤ r ∧ r < 2147483648) (c : Int) (hb_c : -2147483648 ≤ c ∧ c < 2147483648) (b : Bool)  : zCt yX5_region KX5_region [zR 27, zI r, zI c, zI (zbz b)] M (fun zv zM => zv = some (if inT (tsX M 0) r c = true then fgR M r c (if b then 1 else 2) 33 2 else -1) ∧ zM = (if inT (tsX M 0) r c = true then fgR M r c (if b then 1 else 2) else M)) := by
  obtain ⟨hs1, hs2, hs3, hs4, hs5, hs6, hs7⟩ := id hS
  have hF := fgX_P hS
  have hf1 := hF.1
  have hf4 := hF.2.2.2
  have htf : tsX (fgX M) 0 = tsX M 0 := tsX_congr (fgX_off (by decide)) (fgX_off (by decide)) (fgX_off (by decide))
  have hf0 : fgX M 0 = M 0 := fgX_off (by decide)
  refine z_met (by decide) rfl (Nat.le_of_ble_eq_true rfl) (fun X hc he => ?_)
  show zJW X 0 [(0, zR 27), (1, zI r), (2, zI c), (3, zI (zbz b))] [] M
  refine z_ald (pc := 0) hc 0 rfl dX5_region_0 ?_
  refine fg_X5_19 (pc := 1) hc rfl rfl dX5_region_1 ?_
  refine z_ild (pc := 4) hc 1 rfl dX5_region_4 ?_
  refine z_ild (pc := 5) hc 2 rfl dX5_region_5 ?_
  refine kc_X5_73 (pc := 6) hc rfl (zfitX (by decide) rfl rfl) rfl (by decide) (Nat.le_of_ble_eq_true rfl) (ct_X3_has M 0 (by omega) (by first | assumption ) r c (by omega) (by omega)) dX5_region_6 ?_
  refine z_bne (pc := 9) (tgt := 14) hc (by decide) dX5_region_9 (fun h9 => ?_) (fun h9 => ?_)
  · show zJW X 14 [(0, zR 27), (1, zI r), (2, zI c), (3, zI (zbz b))] [] M
    have h9' := h9
    rw [inT_X] at h9'
    have h9' := of_decide_eq_true h9'
    have hi : inT (tsX (fgX M) 0) r c = true := by rw [htf]; exact h9
    refine z_ald (pc := 14) hc 0 rfl dX5_region_14 ?_
    refine fg_X5_43 (pc := 15) hc rfl rfl dX5_region_15 ?_
    refine kc_X5_88 (pc := 18) hc rfl (zfitX (by decide) rfl rfl) rfl (Nat.le_of_ble_eq_true rfl) (ct_X2_forg M) dX5_region_18 ?_
    refine z_ald (pc := 21) hc 0 rfl dX5_region_21 ?_
    refine fg_X5_43 (pc := 22) hc rfl rfl dX5_region_22 ?_
    refine z_ald (pc := 25) hc 0 rfl dX5_region_25 ?_
    refine fg_X5_19 (pc := 26) hc rfl rfl dX5_region_26 ?_
    refine z_ild (pc := 29) hc 1 rfl dX5_region_29 ?_
    refine z_ild (pc := 30) hc 2 rfl dX5_region_30 ?_
    refine z_ild (pc := 31) hc 3 rfl dX5_region_31 ?_
    refine z_beq (pc := 32) (tgt := 39) hc (by decide) dX5_region_32 (fun h32 => ?_) (fun h32 => ?_)
    · show zJW X 39 [(0, zR 27), (1, zI r), (2, zI c), (3, zI (zbz b))] [zI c, zI r, zR 0, zR 33] (fgX M)
      refine z_iconst (pc := 39) hc 2 dX5_region_39 ?_
      refine kc_X5_91 (pc := 40) hc rfl (zfitX (by decide) rfl rfl) rfl (Nat.le_of_ble_eq_true rfl) (ct_X2_ovr2 (fgX M) (by assumption) (by assumption) r c (by assumption)) dX5_region_40 ?_
      rw [htf]
      show zJW X _ _ _ (fgR M r c 2)
      refine z_ald (pc := 43) hc 0 rfl dX5_region_43 ?_
      refine fg_X5_43 (pc := 44) hc rfl rfl dX5_region_44 ?_
      refine fg_X5_105 (pc := 47) hc rfl rfl dX5_region_47 ?_
      exact z_iret (pc := 50) hc he rfl dX5_region_50 (by rw [h9, h32]; exact ⟨rfl, rfl⟩)
    · show zJW X 35 [(0, zR 27), (1, zI r), (2, zI c), (3, zI (zbz b))] [zI c, zI r, zR 0, zR 33] (fgX M)
      refine z_iconst (pc := 35) hc 1 dX5_region_35 ?_
      refine z_goto (pc := 36) (tgt := 40) hc (by decide) dX5_region_36 ?_
      refine kc_X5_91 (pc := 40) hc rfl (zfitX (by decide) rfl rfl) rfl (Nat.le_of_ble_eq_true rfl) (ct_X2_ovr1 (fgX M) (by assumption) (by assumption) r c (by assumption)) dX5_region_40 ?_
      rw [htf]
      show zJW X _ _ _ (fgR M r c 1)
      refine z_ald (pc := 43) hc 0 rfl dX5_region_43 ?_
      refine fg_X5_43 (pc := 44) hc rfl rfl dX5_region_44 ?_
      refine fg_X5_105 (pc := 47) hc rfl rfl dX5_region_47 ?_
      exact z_iret (pc := 50) hc he rfl dX5_region_50 (by rw [h9, h32]; exact ⟨rfl, rfl⟩)
  · show zJW X 12 [(0, zR 27), (1, zI r), (2, zI c), (3, zI (zbz b))] [] M
    refine z_iconst (pc := 12) hc (-1) dX5_region_12 ?_
    exact z_iret (pc := 13) hc he rfl dX5_region_13 (⟨by rw [h9]; rfl, by rw [h9]; rfl⟩)

set_option maxRecDepth 100000 in
set_option maxHeartbeats 4000000 in
theorem ct_X5_way (M : Mem) (hS : zSk M 0) (r : Int) (hb_r : -2147483648 ≤ r ∧ r < 2147483648) (c : Int) (hb_c : -2147483648 ≤ c ∧ c < 2147483648) (p : Int) (hb_p : -2147483648 ≤ p ∧ p < 2147483648) (q : Int) (hb_q : -2147483648 ≤ q ∧ q < 2147483648)  : zCt yX5_way KX5_way [zR 27, zI r, zI c, zI p, zI q] M (fun zv zM => zv = some (if inT (tsX M 0) r c = true ∧ inT (tsX M 0) p q = true then (if ((fgR M r c 2) 35 (p * 12 + q)) ≠ -1 then ((fgR M r c 2) 35 (p * 12 + q)) else -6) else -1) ∧ zM = (if inT (tsX M 0) r c = true ∧ inT (tsX M 0) p q = true then (fgR M r c 2) else M)) := by
  obtain ⟨hs1, hs2, hs3, hs4, hs5, hs6, hs7⟩ := id hS
  have hF := fgX_P hS
  have hf1 := hF.1
  have hf4 := hF.2.2.2
  have htf : tsX (fgX M) 0 = tsX M 0 := tsX_congr (fgX_off (by decide)) (fgX_off (by decide)) (fgX_off (by decide))
  have hf0 : fgX M 0 = M 0 := fgX_off (by decide)
  refine z_met (by decide) rfl (Nat.le_of_ble_eq_true rfl) (fun X hc he => ?_)
  show zJW X 0 [(0, zR 27), (1, zI r), (2, zI c), (3, zI p), (4, zI q)] [] M
  refine z_ald (pc := 0) hc 0 rfl dX5_way_0 ?_
  refine fg_X5_19 (pc := 1) hc rfl rfl dX5_way_1 ?_
  refine z_ild (pc := 4) hc 1 rfl dX5_way_4 ?_
  refine z_ild (pc := 5) hc 2 rfl dX5_way_5 ?_
  refine kc_X5_73 (pc := 6) hc rfl (zfitX (by decide) rfl rfl) rfl (by decide) (Nat.le_of_ble_eq_true rfl) (ct_X3_has M 0 (by omega) (by first | assumption ) r c (by omega) (by omega)) dX5_way_6 ?_
  refine z_beq (pc := 9) (tgt := 25) hc (by decide) dX5_way_9 (fun h9 => ?_) (fun h9 => ?_)
  · show zJW X 25 [(0, zR 27), (1, zI r), (2, zI c), (3, zI p), (4, zI q)] [] M
    refine z_iconst (pc := 25) hc (-1) dX5_way_25 ?_
    exact z_iret (pc := 26) hc he rfl dX5_way_26 (by first | exact ⟨by rw [if_neg (fun h => by rw [h9] at h; exact absurd h.1 (by decide))], by rw [if_neg (fun h => by rw [h9] at h; exact absurd h.1 (by decide))]⟩ | exact ⟨by rw [if_neg (fun h => by rw [h22] at h; exact absurd h.2 (by decide))], by rw [if_neg (fun h => by rw [h22] at h; exact absurd h.2 (by decide))]⟩)
  · show zJW X 12 [(0, zR 27), (1, zI r), (2, zI c), (3, zI p), (4, zI q)] [] M
    refine z_ald (pc := 12) hc 0 rfl dX5_way_12 ?_
    refine fg_X5_19 (pc := 13) hc rfl rfl dX5_way_13 ?_
    refine z_ild (pc := 16) hc 3 rfl dX5_way_16 ?_
    refine z_ilw (pc := 17) hc 4 rfl dX5_way_17 ?_
    refine kc_X5_73 (pc := 19) hc rfl (zfitX (by decide) rfl rfl) rfl (by decide) (Nat.le_of_ble_eq_true rfl) (ct_X3_has M 0 (by omega) (by first | assumption ) p q (by omega) (by omega)) dX5_way_19 ?_
    refine z_bne (pc := 22) (tgt := 27) hc (by decide) dX5_way_22 (fun h22 => ?_) (fun h22 => ?_)
    · show zJW X 27 [(0, zR 27), (1, zI r), (2, zI c), (3, zI p), (4, zI q)] [] M
      have h9' := h9
      rw [inT_X] at h9'
      have h9' := of_decide_eq_true h9'
      have h22' := h22
      rw [inT_X] at h22'
      have h22' := of_decide_eq_true h22'
      have hi : inT (tsX (fgX M) 0) r c = true := by rw [htf]; exact h9
      refine z_ald (pc := 27) hc 0 rfl dX5_way_27 ?_
      refine fg_X5_43 (pc := 28) hc rfl rfl dX5_way_28 ?_
      refine kc_X5_88 (pc := 31) hc rfl (zfitX (by decide) rfl rfl) rfl (Nat.le_of_ble_eq_true rfl) (ct_X2_forg M) dX5_way_31 ?_
      refine z_ald (pc := 34) hc 0 rfl dX5_way_34 ?_
      refine fg_X5_43 (pc := 35) hc rfl rfl dX5_way_35 ?_
      refine z_ald (pc := 38) hc 0 rfl dX5_way_38 ?_
      refine fg_X5_19 (pc := 39) hc rfl rfl dX5_way_39 ?_
      refine z_ild (pc := 42) hc 1 rfl dX5_way_42 ?_
      refine z_ild (pc := 43) hc 2 rfl dX5_way_43 ?_
      refine z_iconst (pc := 44) hc 2 dX5_way_44 ?_
      refine kc_X5_91 (pc := 45) hc rfl (zfitX (by decide) rfl rfl) rfl (Nat.le_of_ble_eq_true rfl) (ct_X2_ovr2 (fgX M) (by assumption) (by assumption) r c (by assumption)) dX5_way_45 ?_
      rw [htf]
      show zJW X _ _ _ (fgR M r c 2)
      have hP := fgR_P (r := r) (c := c) (e := 2) hS
      have hv9 := hP.1.2.2.2 (p * 12 + q) (by omega) (by omega)
      refine z_ald (pc := 48) hc 0 rfl dX5_way_48 ?_
      refine fg_X5_43 (pc := 49) hc rfl rfl dX5_way_49 ?_
      refine z_ild (pc := 52) hc 3 rfl dX5_way_52 ?_
      refine z_ilw (pc := 53) hc 4 rfl dX5_way_53 ?_
      refine kc_X5_102 (pc := 55) hc rfl (zfitX (by decide) rfl rfl) rfl (Nat.le_of_ble_eq_true rfl) (ct_X2_hasReached (fgR M r c 2) p q (by omega) (by omega) (by first | assumption | omega)) dX5_way_55 ?_
      refine z_beq (pc := 58) (tgt := 74) hc (by decide) dX5_way_58 (fun h58 => ?_) (fun h58 => ?_)
      · show zJW X 74 [(0, zR 27), (1, zI r), (2, zI c), (3, zI p), (4, zI q)] [] (fgR M r c 2)
        refine z_bipush (pc := 74) hc (-6) (by decide) dX5_way_74 ?_
        exact z_iret (pc := 76) hc he rfl dX5_way_76 (by have hpq := (show inT (tsX M 0) r c = true ∧ inT (tsX M 0) p q = true from ⟨h9, h22⟩); rw [if_pos hpq, if_pos hpq]; first | exact ⟨by rw [if_pos (of_decide_eq_true h58)], rfl⟩ | exact ⟨by rw [if_neg (of_decide_eq_false h58)], rfl⟩)
      · show zJW X 61 [(0, zR 27), (1, zI r), (2, zI c), (3, zI p), (4, zI q)] [] (fgR M r c 2)
        refine z_ald (pc := 61) hc 0 rfl dX5_way_61 ?_
        refine fg_X5_43 (pc := 62) hc rfl rfl dX5_way_62 ?_
        refine z_ild (pc := 65) hc 3 rfl dX5_way_65 ?_
        refine z_ilw (pc := 66) hc 4 rfl dX5_way_66 ?_
        refine kc_X5_175 (pc := 68) hc rfl (zfitX (by decide) rfl rfl) rfl (Nat.le_of_ble_eq_true rfl) (ct_X2_stepsTo (fgR M r c 2) p q (by omega) (by omega)) dX5_way_68 ?_
        refine z_goto (pc := 71) (tgt := 76) hc (by decide) dX5_way_71 ?_
        exact z_iret (pc := 76) hc he rfl dX5_way_76 (by have hpq := (show inT (tsX M 0) r c = true ∧ inT (tsX M 0) p q = true from ⟨h9, h22⟩); rw [if_pos hpq, if_pos hpq]; first | exact ⟨by rw [if_pos (of_decide_eq_true h58)], rfl⟩ | exact ⟨by rw [if_neg (of_decide_eq_false h58)], rfl⟩)
    · show zJW X 25 [(0, zR 27), (1, zI r), (2, zI c), (3, zI p), (4, zI q)] [] M
      refine z_iconst (pc := 25) hc (-1) dX5_way_25 ?_
      exact z_iret (pc := 26) hc he rfl dX5_way_26 (by first | exact ⟨by rw [if_neg (fun h => by rw [h9] at h; exact absurd h.1 (by decide))], by rw [if_neg (fun h => by rw [h9] at h; exact absurd h.1 (by decide))]⟩ | exact ⟨by rw [if_neg (fun h => by rw [h22] at h; exact absurd h.2 (by decide))], by rw [if_neg (fun h => by rw [h22] at h; exact absurd h.2 (by decide))]⟩)

set_option maxRecDepth 100000 in
set_option maxHeartbeats 4000000 in
theorem ct_X5_islands (M : Mem) (hS : zSk M 0)  : zCt yX5_islands KX5_islands [zR 27] M (fun zv zM => zv = some ((zrep (rgO true 1 gIs (M 0 1).toNat) (M 0 0).toNat (fgX M, ((0 : Int), (0 : Int)))).2.1) ∧ zM = (zrep (rgO true 1 gIs (M 0 1).toNat) (M 0 0).toNat (fgX M, ((0 : Int), (0 : Int)))).1) := by
  obtain ⟨hs1, hs2, hs3, hs4, hs5, hs6, hs7⟩ := id hS
  have hF := fgX_P hS
  have hf1 := hF.1
  have hf4 := hF.2.2.2
  have htf : tsX (fgX M) 0 = tsX M 0 := tsX_congr (fgX_off (by decide)) (fgX_off (by decide)) (fgX_off (by decide))
  have hf0 : fgX M 0 = M 0 := fgX_off (by decide)
  refine z_met (by decide) rfl (Nat.le_of_ble_eq_true rfl) (fun X hc he => ?_)
  show zJW X 0 [(0, zR 27)] [] M
  refine z_ald (pc := 0) hc 0 rfl dX5_islands_0 ?_
  refine fg_X5_43 (pc := 1) hc rfl rfl dX5_islands_1 ?_
  refine kc_X5_88 (pc := 4) hc rfl (zfitX (by decide) rfl rfl) rfl (Nat.le_of_ble_eq_true rfl) (ct_X2_forg M) dX5_islands_4 ?_
  refine z_iconst (pc := 7) hc 0 dX5_islands_7 ?_
  refine z_ist (pc := 8) (lv' := [(1, zI 0), (0, zR 27)]) hc rfl (by decide) dX5_islands_8 ?_
  refine z_iconst (pc := 9) hc 0 dX5_islands_9 ?_
  refine z_ist (pc := 10) (lv' := [(2, zI 0), (1, zI 0), (0, zR 27)]) hc rfl (by decide) dX5_islands_10 ?_
  refine z_for ((M 0 0).toNat) (fun i11 => [(2, zI ((i11 : Nat) : Int)), (1, zI ((zrep (rgO true 1 gIs (M 0 1).toNat) i11 (fgX M, ((0 : Int), (0 : Int)))).2.1)), (0, zR 27)]) (fun i11 => (zrep (rgO true 1 gIs (M 0 1).toNat) i11 (fgX M, ((0 : Int), (0 : Int)))).1) (by rfl) (by rfl) ?_ (fun i11 hi11 ih11 => ?_)
  · show zJW X 11 [(2, zI ((((M 0 0).toNat) : Nat) : Int)), (1, zI ((zrep (rgO true 1 gIs (M 0 1).toNat) ((M 0 0).toNat) (fgX M, ((0 : Int), (0 : Int)))).2.1)), (0, zR 27)] [] ((zrep (rgO true 1 gIs (M 0 1).toNat) ((M 0 0).toNat) (fgX M, ((0 : Int), (0 : Int)))).1)
    have hx : rgP (fgX M) (zrep (rgO true 1 gIs (M 0 1).toNat) (M 0 0).toNat (fgX M, ((0 : Int), (0 : Int)))).1 := zrep_inv (P := fun q : Mem × (Int × Int) => rgP (fgX M) q.1) hF _ (fun _ _ _ hx => rgO_P hx)
    have hxz : (zrep (rgO true 1 gIs (M 0 1).toNat) (M 0 0).toNat (fgX M, ((0 : Int), (0 : Int)))).1 0 = M 0 := (hx.2.2.1 0 (by decide) (by decide) (by decide)).trans hf0
    have hxz0 := congrFun hxz 0
    have hxz1 := congrFun hxz 1
    refine z_ild (pc := 11) hc 0 rfl dX5_islands_11 ?_
    refine z_ald (pc := 12) hc 2 rfl dX5_islands_12 ?_
    refine fg_X5_19 (pc := 13) hc rfl rfl dX5_islands_13 ?_
    refine fg_X5_95 (pc := 16) hc rfl rfl (by decide) dX5_islands_16 ?_
    refine z_cge (pc := 19) (tgt := 88) hc (by omega) (by decide) dX5_islands_19 (fun h19 => ?_) (fun h19 => ?_)
    · show zJW X 88 [(2, zI ((((M 0 0).toNat) : Nat) : Int)), (1, zI ((zrep (rgO true 1 gIs (M 0 1).toNat) ((M 0 0).toNat) (fgX M, ((0 : Int), (0 : Int)))).2.1)), (0, zR 27)] [] ((zrep (rgO true 1 gIs (M 0 1).toNat) ((M 0 0).toNat) (fgX M, ((0 : Int), (0 : Int)))).1)
      refine z_ild (pc := 88) hc 1 rfl dX5_islands_88 ?_
      exact z_iret (pc := 89) hc he rfl dX5_islands_89 (⟨rfl, rfl⟩)
    · exfalso; omega
  · show zJW X 11 [(2, zI ((i11 : Nat) : Int)), (1, zI ((zrep (rgO true 1 gIs (M 0 1).toNat) i11 (fgX M, ((0 : Int), (0 : Int)))).2.1)), (0, zR 27)] [] ((zrep (rgO true 1 gIs (M 0 1).toNat) i11 (fgX M, ((0 : Int), (0 : Int)))).1)
    have ho : rgP (fgX M) (zrep (rgO true 1 gIs (M 0 1).toNat) i11 (fgX M, ((0 : Int), (0 : Int)))).1 := zrep_inv (P := fun q : Mem × (Int × Int) => rgP (fgX M) q.1) hF _ (fun _ _ _ hx => rgO_P hx)
    have hoz : (zrep (rgO true 1 gIs (M 0 1).toNat) i11 (fgX M, ((0 : Int), (0 : Int)))).1 0 = M 0 := (ho.2.2.1 0 (by decide) (by decide) (by decide)).trans hf0
    have hoz0 := congrFun hoz 0
    have hoz1 := congrFun hoz 1
    refine z_ild (pc := 11) hc 0 rfl dX5_islands_11 ?_
    refine z_ald (pc := 12) hc 2 rfl dX5_islands_12 ?_
    refine fg_X5_19 (pc := 13) hc rfl rfl dX5_islands_13 ?_
    refine fg_X5_95 (pc := 16) hc rfl rfl (by decide) dX5_islands_16 ?_
    refine z_cge (pc := 19) (tgt := 88) hc (by omega) (by decide) dX5_islands_19 (fun h19 => ?_) (fun h19 => ?_)
    · exfalso; omega
    · show zJW X 22 [(2, zI ((i11 : Nat) : Int)), (1, zI ((zrep (rgO true 1 gIs (M 0 1).toNat) i11 (fgX M, ((0 : Int), (0 : Int)))).2.1)), (0, zR 27)] [] ((zrep (rgO true 1 gIs (M 0 1).toNat) i11 (fgX M, ((0 : Int), (0 : Int)))).1)
      refine z_iconst (pc := 22) hc 0 dX5_islands_22 ?_
      refine z_ist (pc := 23) (lv' := [(3, zI 0), (2, zI ((i11 : Nat) : Int)), (1, zI ((zrep (rgO true 1 gIs (M 0 1).toNat) i11 (fgX M, ((0 : Int), (0 : Int)))).2.1)), (0, zR 27)]) hc rfl (by decide) dX5_islands_23 ?_
      refine z_for ((M 0 1).toNat) (fun i24 => [(3, zI ((i24 : Nat) : Int)), (2, zI ((i11 : Nat) : Int)), (1, zI ((zrep (rgX true 1 gIs ((i11 : Nat) : Int)) i24 (zrep (rgO true 1 gIs (M 0 1).toNat) i11 (fgX M, ((0 : Int), (0 : Int))))).2.1)), (0, zR 27)]) (fun i24 => (zrep (rgX true 1 gIs ((i11 : Nat) : Int)) i24 (zrep (rgO true 1 gIs (M 0 1).toNat) i11 (fgX M, ((0 : Int), (0 : Int))))).1) (by rfl) (by rfl) ?_ (fun i24 hi24 ih24 => ?_)
      · show zJW X 24 [(3, zI ((((M 0 1).toNat) : Nat) : Int)), (2, zI ((i11 : Nat) : Int)), (1, zI ((zrep (rgX true 1 gIs ((i11 : Nat) : Int)) ((M 0 1).toNat) (zrep (rgO true 1 gIs (M 0 1).toNat) i11 (fgX M, ((0 : Int), (0 : Int))))).2.1)), (0, zR 27)] [] ((zrep (rgX true 1 gIs ((i11 : Nat) : Int)) ((M 0 1).toNat) (zrep (rgO true 1 gIs (M 0 1).toNat) i11 (fgX M, ((0 : Int), (0 : Int))))).1)
        have hy : rgP (fgX M) (zrep (rgX true 1 gIs ((i11 : Nat) : Int)) (M 0 1).toNat (zrep (rgO true 1 gIs (M 0 1).toNat) i11 (fgX M, ((0 : Int), (0 : Int))))).1 := zrep_inv (P := fun q : Mem × (Int × Int) => rgP (fgX M) q.1) ho _ (fun _ _ _ hx => rgX_P hx)
        have hyz : (zrep (rgX true 1 gIs ((i11 : Nat) : Int)) (M 0 1).toNat (zrep (rgO true 1 gIs (M 0 1).toNat) i11 (fgX M, ((0 : Int), (0 : Int))))).1 0 = M 0 := (hy.2.2.1 0 (by decide) (by decide) (by decide)).trans hf0
        have hyz0 := congrFun hyz 0
        have hyz1 := congrFun hyz 1
        refine z_ild (pc := 24) hc 0 rfl dX5_islands_24 ?_
        refine z_ald (pc := 25) hc 3 rfl dX5_islands_25 ?_
        refine fg_X5_19 (pc := 26) hc rfl rfl dX5_islands_26 ?_
        refine fg_X5_99 (pc := 29) hc rfl rfl (by decide) dX5_islands_29 ?_
        refine z_cge (pc := 32) (tgt := 82) hc (by omega) (by decide) dX5_islands_32 (fun h32 => ?_) (fun h32 => ?_)
        · show zJW X 82 [(3, zI ((((M 0 1).toNat) : Nat) : Int)), (2, zI ((i11 : Nat) : Int)), (1, zI ((zrep (rgX true 1 gIs ((i11 : Nat) : Int)) ((M 0 1).toNat) (zrep (rgO true 1 gIs (M 0 1).toNat) i11 (fgX M, ((0 : Int), (0 : Int))))).2.1)), (0, zR 27)] [] ((zrep (rgX true 1 gIs ((i11 : Nat) : Int)) ((M 0 1).toNat) (zrep (rgO true 1 gIs (M 0 1).toNat) i11 (fgX M, ((0 : Int), (0 : Int))))).1)
          refine z_iinc (pc := 82) (lv' := [(2, zI (((i11 : Nat) : Int) + 1)), (3, zI ((((M 0 1).toNat) : Nat) : Int)), (1, zI ((zrep (rgX true 1 gIs ((i11 : Nat) : Int)) ((M 0 1).toNat) (zrep (rgO true 1 gIs (M 0 1).toNat) i11 (fgX M, ((0 : Int), (0 : Int))))).2.1)), (0, zR 27)]) hc 1 rfl rfl (by decide) dX5_islands_82 ?_
          refine z_goto (pc := 85) (tgt := 11) hc (by decide) dX5_islands_85 ?_
          refine zJW_sub (lv' := [(2, zI (((i11 : Nat) : Int) + 1)), (1, zI ((zrep (rgX true 1 gIs ((i11 : Nat) : Int)) ((M 0 1).toNat) (zrep (rgO true 1 gIs (M 0 1).toNat) i11 (fgX M, ((0 : Int), (0 : Int))))).2.1)), (0, zR 27)]) [0, 2, 3] rfl ?_
          exact zJW_eq (by rfl) rfl (by rfl) ih11
        · exfalso; omega
      · show zJW X 24 [(3, zI ((i24 : Nat) : Int)), (2, zI ((i11 : Nat) : Int)), (1, zI ((zrep (rgX true 1 gIs ((i11 : Nat) : Int)) i24 (zrep (rgO true 1 gIs (M 0 1).toNat) i11 (fgX M, ((0 : Int), (0 : Int))))).2.1)), (0, zR 27)] [] ((zrep (rgX true 1 gIs ((i11 : Nat) : Int)) i24 (zrep (rgO true 1 gIs (M 0 1).toNat) i11 (fgX M, ((0 : Int), (0 : Int))))).1)
        have hi : rgP (fgX M) (zrep (rgX true 1 gIs ((i11 : Nat) : Int)) i24 (zrep (rgO true 1 gIs (M 0 1).toNat) i11 (fgX M, ((0 : Int), (0 : Int))))).1 := zrep_inv (P := fun q : Mem × (Int × Int) => rgP (fgX M) q.1) ho _ (fun _ _ _ hx => rgX_P hx)
        have hiz : (zrep (rgX true 1 gIs ((i11 : Nat) : Int)) i24 (zrep (rgO true 1 gIs (M 0 1).toNat) i11 (fgX M, ((0 : Int), (0 : Int))))).1 0 = M 0 := (hi.2.2.1 0 (by decide) (by decide) (by decide)).trans hf0
        have hiz0 := congrFun hiz 0
        have hiz1 := congrFun hiz 1
        have hiS := hi.1
        have hiV := hi.2.2.2
        have hiT : inT (tsX (zrep (rgX true 1 gIs ((i11 : Nat) : Int)) i24 (zrep (rgO true 1 gIs (M 0 1).toNat) i11 (fgX M, ((0 : Int), (0 : Int))))).1 0) ((i11 : Nat) : Int) ((i24 : Nat) : Int) = true := by
          rw [hi.2.1, htf, inT_X]
          exact decide_eq_true (by omega)
        have hiv := hiV (((i11 : Nat) : Int) * 12 + ((i24 : Nat) : Int)) (by omega) (by omega)
        refine z_ild (pc := 24) hc 0 rfl dX5_islands_24 ?_
        refine z_ald (pc := 25) hc 3 rfl dX5_islands_25 ?_
        refine fg_X5_19 (pc := 26) hc rfl rfl dX5_islands_26 ?_
        refine fg_X5_99 (pc := 29) hc rfl rfl (by decide) dX5_islands_29 ?_
        refine z_cge (pc := 32) (tgt := 82) hc (by omega) (by decide) dX5_islands_32 (fun h32 => ?_) (fun h32 => ?_)
        · exfalso; omega
        · show zJW X 35 [(3, zI ((i24 : Nat) : Int)), (2, zI ((i11 : Nat) : Int)), (1, zI ((zrep (rgX true 1 gIs ((i11 : Nat) : Int)) i24 (zrep (rgO true 1 gIs (M 0 1).toNat) i11 (fgX M, ((0 : Int), (0 : Int))))).2.1)), (0, zR 27)] [] ((zrep (rgX true 1 gIs ((i11 : Nat) : Int)) i24 (zrep (rgO true 1 gIs (M 0 1).toNat) i11 (fgX M, ((0 : Int), (0 : Int))))).1)
          refine z_ald (pc := 35) hc 3 rfl dX5_islands_35 ?_
          refine fg_X5_19 (pc := 36) hc rfl rfl dX5_islands_36 ?_
          refine z_ild (pc := 39) hc 1 rfl dX5_islands_39 ?_
          refine z_ild (pc := 40) hc 0 rfl dX5_islands_40 ?_
          refine kc_X5_77 (pc := 41) hc rfl (zfitX (by decide) rfl rfl) rfl (by decide) (Nat.le_of_ble_eq_true rfl) (ct_X3_isLandAt ((zrep (rgX true 1 gIs ((i11 : Nat) : Int)) i24 (zrep (rgO true 1 gIs (M 0 1).toNat) i11 (fgX M, ((0 : Int), (0 : Int))))).1) 0 (by omega) (by first | assumption ) ((i11 : Nat) : Int) ((i24 : Nat) : Int) (by omega) (by omega)) dX5_islands_41 ?_
          refine z_beq (pc := 44) (tgt := 76) hc (by decide) dX5_islands_44 (fun h44 => ?_) (fun h44 => ?_)
          · show zJW X 76 [(3, zI ((i24 : Nat) : Int)), (2, zI ((i11 : Nat) : Int)), (1, zI ((zrep (rgX true 1 gIs ((i11 : Nat) : Int)) i24 (zrep (rgO true 1 gIs (M 0 1).toNat) i11 (fgX M, ((0 : Int), (0 : Int))))).2.1)), (0, zR 27)] [] ((zrep (rgX true 1 gIs ((i11 : Nat) : Int)) i24 (zrep (rgO true 1 gIs (M 0 1).toNat) i11 (fgX M, ((0 : Int), (0 : Int))))).1)
            refine z_iinc (pc := 76) (lv' := [(3, zI (((i24 : Nat) : Int) + 1)), (2, zI ((i11 : Nat) : Int)), (1, zI ((zrep (rgX true 1 gIs ((i11 : Nat) : Int)) i24 (zrep (rgO true 1 gIs (M 0 1).toNat) i11 (fgX M, ((0 : Int), (0 : Int))))).2.1)), (0, zR 27)]) hc 0 rfl rfl (by decide) dX5_islands_76 ?_
            refine z_goto (pc := 79) (tgt := 24) hc (by decide) dX5_islands_79 ?_
            exact zJW_eq (by rw [zrep_succ]; first | (rw [rgX_n1 h44]; rfl) | (rw [rgX_n2 h56]; rfl) | (rw [rgX_y h44 h56]; rfl)) rfl (by rw [zrep_succ]; first | (rw [rgX_n1 h44]; done) | (rw [rgX_n2 h56]; done) | (rw [rgX_y h44 h56]; done)) ih24
          · show zJW X 47 [(3, zI ((i24 : Nat) : Int)), (2, zI ((i11 : Nat) : Int)), (1, zI ((zrep (rgX true 1 gIs ((i11 : Nat) : Int)) i24 (zrep (rgO true 1 gIs (M 0 1).toNat) i11 (fgX M, ((0 : Int), (0 : Int))))).2.1)), (0, zR 27)] [] ((zrep (rgX true 1 gIs ((i11 : Nat) : Int)) i24 (zrep (rgO true 1 gIs (M 0 1).toNat) i11 (fgX M, ((0 : Int), (0 : Int))))).1)
            refine z_ald (pc := 47) hc 3 rfl dX5_islands_47 ?_
            refine fg_X5_43 (pc := 48) hc rfl rfl dX5_islands_48 ?_
            refine z_ild (pc := 51) hc 1 rfl dX5_islands_51 ?_
            refine z_ild (pc := 52) hc 0 rfl dX5_islands_52 ?_
            refine kc_X5_102 (pc := 53) hc rfl (zfitX (by decide) rfl rfl) rfl (Nat.le_of_ble_eq_true rfl) (ct_X2_hasReached ((zrep (rgX true 1 gIs ((i11 : Nat) : Int)) i24 (zrep (rgO true 1 gIs (M 0 1).toNat) i11 (fgX M, ((0 : Int), (0 : Int))))).1) ((i11 : Nat) : Int) ((i24 : Nat) : Int) (by omega) (by omega) (by first | assumption | omega)) dX5_islands_53 ?_
            refine z_bne (pc := 56) (tgt := 76) hc (by decide) dX5_islands_56 (fun h56 => ?_) (fun h56 => ?_)
            · show zJW X 76 [(3, zI ((i24 : Nat) : Int)), (2, zI ((i11 : Nat) : Int)), (1, zI ((zrep (rgX true 1 gIs ((i11 : Nat) : Int)) i24 (zrep (rgO true 1 gIs (M 0 1).toNat) i11 (fgX M, ((0 : Int), (0 : Int))))).2.1)), (0, zR 27)] [] ((zrep (rgX true 1 gIs ((i11 : Nat) : Int)) i24 (zrep (rgO true 1 gIs (M 0 1).toNat) i11 (fgX M, ((0 : Int), (0 : Int))))).1)
              refine z_iinc (pc := 76) (lv' := [(3, zI (((i24 : Nat) : Int) + 1)), (2, zI ((i11 : Nat) : Int)), (1, zI ((zrep (rgX true 1 gIs ((i11 : Nat) : Int)) i24 (zrep (rgO true 1 gIs (M 0 1).toNat) i11 (fgX M, ((0 : Int), (0 : Int))))).2.1)), (0, zR 27)]) hc 0 rfl rfl (by decide) dX5_islands_76 ?_
              refine z_goto (pc := 79) (tgt := 24) hc (by decide) dX5_islands_79 ?_
              exact zJW_eq (by rw [zrep_succ]; first | (rw [rgX_n1 h44]; rfl) | (rw [rgX_n2 h56]; rfl) | (rw [rgX_y h44 h56]; rfl)) rfl (by rw [zrep_succ]; first | (rw [rgX_n1 h44]; done) | (rw [rgX_n2 h56]; done) | (rw [rgX_y h44 h56]; done)) ih24
            · show zJW X 59 [(3, zI ((i24 : Nat) : Int)), (2, zI ((i11 : Nat) : Int)), (1, zI ((zrep (rgX true 1 gIs ((i11 : Nat) : Int)) i24 (zrep (rgO true 1 gIs (M 0 1).toNat) i11 (fgX M, ((0 : Int), (0 : Int))))).2.1)), (0, zR 27)] [] ((zrep (rgX true 1 gIs ((i11 : Nat) : Int)) i24 (zrep (rgO true 1 gIs (M 0 1).toNat) i11 (fgX M, ((0 : Int), (0 : Int))))).1)
              have h56 := Decidable.not_not.mp (of_decide_eq_false h56)
              refine z_ald (pc := 59) hc 3 rfl dX5_islands_59 ?_
              refine fg_X5_43 (pc := 60) hc rfl rfl dX5_islands_60 ?_
              refine z_ald (pc := 63) hc 3 rfl dX5_islands_63 ?_
              refine fg_X5_19 (pc := 64) hc rfl rfl dX5_islands_64 ?_
              refine z_ild (pc := 67) hc 1 rfl dX5_islands_67 ?_
              refine z_ild (pc := 68) hc 0 rfl dX5_islands_68 ?_
              refine z_iconst (pc := 69) hc 1 dX5_islands_69 ?_
              refine kc_X5_91 (pc := 70) hc rfl (zfitX (by decide) rfl rfl) rfl (Nat.le_of_ble_eq_true rfl) (ct_X2_ovr1 ((zrep (rgX true 1 gIs ((i11 : Nat) : Int)) i24 (zrep (rgO true 1 gIs (M 0 1).toNat) i11 (fgX M, ((0 : Int), (0 : Int))))).1) (by assumption) (by assumption) ((i11 : Nat) : Int) ((i24 : Nat) : Int) (by assumption)) dX5_islands_70 ?_
              rw [h44]
              have hg := (ovX_rg (e := 1) hi h44).2
              obtain ⟨hg1, hg2, hg3⟩ := hg
              refine z_iinc (pc := 73) (lv' := [(1, zI ((zrep (rgX true 1 gIs ((i11 : Nat) : Int)) i24 (zrep (rgO true 1 gIs (M 0 1).toNat) i11 (fgX M, ((0 : Int), (0 : Int))))).2.1 + 1)), (3, zI ((i24 : Nat) : Int)), (2, zI ((i11 : Nat) : Int)), (0, zR 27)]) hc 2 rfl rfl (by decide) dX5_islands_73 ?_
              refine z_iinc (pc := 76) (lv' := [(3, zI (((i24 : Nat) : Int) + 1)), (1, zI ((zrep (rgX true 1 gIs ((i11 : Nat) : Int)) i24 (zrep (rgO true 1 gIs (M 0 1).toNat) i11 (fgX M, ((0 : Int), (0 : Int))))).2.1 + 1)), (2, zI ((i11 : Nat) : Int)), (0, zR 27)]) hc 1 rfl rfl (by decide) dX5_islands_76 ?_
              refine z_goto (pc := 79) (tgt := 24) hc (by decide) dX5_islands_79 ?_
              refine zJW_sub (lv' := [(3, zI (((i24 : Nat) : Int) + 1)), (2, zI ((i11 : Nat) : Int)), (1, zI ((zrep (rgX true 1 gIs ((i11 : Nat) : Int)) i24 (zrep (rgO true 1 gIs (M 0 1).toNat) i11 (fgX M, ((0 : Int), (0 : Int))))).2.1 + 1)), (0, zR 27)]) [0, 2, 1, 3] rfl ?_
              exact zJW_eq (by rw [zrep_succ]; first | (rw [rgX_n1 h44]; rfl) | (rw [rgX_n2 h56]; rfl) | (rw [rgX_y h44 h56]; rfl)) rfl (by rw [zrep_succ]; first | (rw [rgX_n1 h44]; done) | (rw [rgX_n2 h56]; done) | (rw [rgX_y h44 h56]; done)) ih24

set_option maxRecDepth 100000 in
set_option maxHeartbeats 4000000 in
theorem ct_X5_lakes (M : Mem) (hS : zSk M 0)  : zCt yX5_lakes KX5_lakes [zR 27] M (fun zv zM => zv = some ((zrep (rgO false 2 gLk (M 0 1).toNat) (M 0 0).toNat (fgX M, ((0 : Int), (0 : Int)))).2.1) ∧ zM = (zrep (rgO false 2 gLk (M 0 1).toNat) (M 0 0).toNat (fgX M, ((0 : Int), (0 : Int)))).1) := by
  obtain ⟨hs1, hs2, hs3, hs4, hs5, hs6, hs7⟩ := id hS
  have hF := fgX_P hS
  have hf1 := hF.1
  have hf4 := hF.2.2.2
  have htf : tsX (fgX M) 0 = tsX M 0 := tsX_congr (fgX_off (by decide)) (fgX_off (by decide)) (fgX_off (by decide))
  have hf0 : fgX M 0 = M 0 := fgX_off (by decide)
  refine z_met (by decide) rfl (Nat.le_of_ble_eq_true rfl) (fun X hc he => ?_)
  show zJW X 0 [(0, zR 27)] [] M
  refine z_ald (pc := 0) hc 0 rfl dX5_lakes_0 ?_
  refine fg_X5_43 (pc := 1) hc rfl rfl dX5_lakes_1 ?_
  refine kc_X5_88 (pc := 4) hc rfl (zfitX (by decide) rfl rfl) rfl (Nat.le_of_ble_eq_true rfl) (ct_X2_forg M) dX5_lakes_4 ?_
  refine z_iconst (pc := 7) hc 0 dX5_lakes_7 ?_
  refine z_ist (pc := 8) (lv' := [(1, zI 0), (0, zR 27)]) hc rfl (by decide) dX5_lakes_8 ?_
  refine z_iconst (pc := 9) hc 0 dX5_lakes_9 ?_
  refine z_ist (pc := 10) (lv' := [(2, zI 0), (1, zI 0), (0, zR 27)]) hc rfl (by decide) dX5_lakes_10 ?_
  refine z_for ((M 0 0).toNat) (fun i11 => [(2, zI ((i11 : Nat) : Int)), (1, zI ((zrep (rgO false 2 gLk (M 0 1).toNat) i11 (fgX M, ((0 : Int), (0 : Int)))).2.1)), (0, zR 27)]) (fun i11 => (zrep (rgO false 2 gLk (M 0 1).toNat) i11 (fgX M, ((0 : Int), (0 : Int)))).1) (by rfl) (by rfl) ?_ (fun i11 hi11 ih11 => ?_)
  · show zJW X 11 [(2, zI ((((M 0 0).toNat) : Nat) : Int)), (1, zI ((zrep (rgO false 2 gLk (M 0 1).toNat) ((M 0 0).toNat) (fgX M, ((0 : Int), (0 : Int)))).2.1)), (0, zR 27)] [] ((zrep (rgO false 2 gLk (M 0 1).toNat) ((M 0 0).toNat) (fgX M, ((0 : Int), (0 : Int)))).1)
    have hx : rgP (fgX M) (zrep (rgO false 2 gLk (M 0 1).toNat) (M 0 0).toNat (fgX M, ((0 : Int), (0 : Int)))).1 := zrep_inv (P := fun q : Mem × (Int × Int) => rgP (fgX M) q.1) hF _ (fun _ _ _ hx => rgO_P hx)
    have hxz : (zrep (rgO false 2 gLk (M 0 1).toNat) (M 0 0).toNat (fgX M, ((0 : Int), (0 : Int)))).1 0 = M 0 := (hx.2.2.1 0 (by decide) (by decide) (by decide)).trans hf0
    have hxz0 := congrFun hxz 0
    have hxz1 := congrFun hxz 1
    refine z_ild (pc := 11) hc 0 rfl dX5_lakes_11 ?_
    refine z_ald (pc := 12) hc 2 rfl dX5_lakes_12 ?_
    refine fg_X5_19 (pc := 13) hc rfl rfl dX5_lakes_13 ?_
    refine fg_X5_95 (pc := 16) hc rfl rfl (by decide) dX5_lakes_16 ?_
    refine z_cge (pc := 19) (tgt := 103) hc (by omega) (by decide) dX5_lakes_19 (fun h19 => ?_) (fun h19 => ?_)
    · show zJW X 103 [(2, zI ((((M 0 0).toNat) : Nat) : Int)), (1, zI ((zrep (rgO false 2 gLk (M 0 1).toNat) ((M 0 0).toNat) (fgX M, ((0 : Int), (0 : Int)))).2.1)), (0, zR 27)] [] ((zrep (rgO false 2 gLk (M 0 1).toNat) ((M 0 0).toNat) (fgX M, ((0 : Int), (0 : Int)))).1)
      refine z_ild (pc := 103) hc 1 rfl dX5_lakes_103 ?_
      exact z_iret (pc := 104) hc he rfl dX5_lakes_104 (⟨rfl, rfl⟩)
    · exfalso; omega
  · show zJW X 11 [(2, zI ((i11 : Nat) : Int)), (1, zI ((zrep (rgO false 2 gLk (M 0 1).toNat) i11 (fgX M, ((0 : Int), (0 : Int)))).2.1)), (0, zR 27)] [] ((zrep (rgO false 2 gLk (M 0 1).toNat) i11 (fgX M, ((0 : Int), (0 : Int)))).1)
    have ho : rgP (fgX M) (zrep (rgO false 2 gLk (M 0 1).toNat) i11 (fgX M, ((0 : Int), (0 : Int)))).1 := zrep_inv (P := fun q : Mem × (Int × Int) => rgP (fgX M) q.1) hF _ (fun _ _ _ hx => rgO_P hx)
    have hoz : (zrep (rgO false 2 gLk (M 0 1).toNat) i11 (fgX M, ((0 : Int), (0 : Int)))).1 0 = M 0 := (ho.2.2.1 0 (by decide) (by decide) (by decide)).trans hf0
    have hoz0 := congrFun hoz 0
    have hoz1 := congrFun hoz 1
    refine z_ild (pc := 11) hc 0 rfl dX5_lakes_11 ?_
    refine z_ald (pc := 12) hc 2 rfl dX5_lakes_12 ?_
    refine fg_X5_19 (pc := 13) hc rfl rfl dX5_lakes_13 ?_
    refine fg_X5_95 (pc := 16) hc rfl rfl (by decide) dX5_lakes_16 ?_
    refine z_cge (pc := 19) (tgt := 103) hc (by omega) (by decide) dX5_lakes_19 (fun h19 => ?_) (fun h19 => ?_)
    · exfalso; omega
    · show zJW X 22 [(2, zI ((i11 : Nat) : Int)), (1, zI ((zrep (rgO false 2 gLk (M 0 1).toNat) i11 (fgX M, ((0 : Int), (0 : Int)))).2.1)), (0, zR 27)] [] ((zrep (rgO false 2 gLk (M 0 1).toNat) i11 (fgX M, ((0 : Int), (0 : Int)))).1)
      refine z_iconst (pc := 22) hc 0 dX5_lakes_22 ?_
      refine z_ist (pc := 23) (lv' := [(3, zI 0), (2, zI ((i11 : Nat) : Int)), (1, zI ((zrep (rgO false 2 gLk (M 0 1).toNat) i11 (fgX M, ((0 : Int), (0 : Int)))).2.1)), (0, zR 27)]) hc rfl (by decide) dX5_lakes_23 ?_
      refine z_for ((M 0 1).toNat) (fun i24 => [(3, zI ((i24 : Nat) : Int)), (2, zI ((i11 : Nat) : Int)), (1, zI ((zrep (rgX false 2 gLk ((i11 : Nat) : Int)) i24 (zrep (rgO false 2 gLk (M 0 1).toNat) i11 (fgX M, ((0 : Int), (0 : Int))))).2.1)), (0, zR 27)]) (fun i24 => (zrep (rgX false 2 gLk ((i11 : Nat) : Int)) i24 (zrep (rgO false 2 gLk (M 0 1).toNat) i11 (fgX M, ((0 : Int), (0 : Int))))).1) (by rfl) (by rfl) ?_ (fun i24 hi24 ih24 => ?_)
      · show zJW X 24 [(3, zI ((((M 0 1).toNat) : Nat) : Int)), (2, zI ((i11 : Nat) : Int)), (1, zI ((zrep (rgX false 2 gLk ((i11 : Nat) : Int)) ((M 0 1).toNat) (zrep (rgO false 2 gLk (M 0 1).toNat) i11 (fgX M, ((0 : Int), (0 : Int))))).2.1)), (0, zR 27)] [] ((zrep (rgX false 2 gLk ((i11 : Nat) : Int)) ((M 0 1).toNat) (zrep (rgO false 2 gLk (M 0 1).toNat) i11 (fgX M, ((0 : Int), (0 : Int))))).1)
        have hy : rgP (fgX M) (zrep (rgX false 2 gLk ((i11 : Nat) : Int)) (M 0 1).toNat (zrep (rgO false 2 gLk (M 0 1).toNat) i11 (fgX M, ((0 : Int), (0 : Int))))).1 := zrep_inv (P := fun q : Mem × (Int × Int) => rgP (fgX M) q.1) ho _ (fun _ _ _ hx => rgX_P hx)
        have hyz : (zrep (rgX false 2 gLk ((i11 : Nat) : Int)) (M 0 1).toNat (zrep (rgO false 2 gLk (M 0 1).toNat) i11 (fgX M, ((0 : Int), (0 : Int))))).1 0 = M 0 := (hy.2.2.1 0 (by decide) (by decide) (by decide)).trans hf0
        have hyz0 := congrFun hyz 0
        have hyz1 := congrFun hyz 1
        refine z_ild (pc := 24) hc 0 rfl dX5_lakes_24 ?_
        refine z_ald (pc := 25) hc 3 rfl dX5_lakes_25 ?_
        refine fg_X5_19 (pc := 26) hc rfl rfl dX5_lakes_26 ?_
        refine fg_X5_99 (pc := 29) hc rfl rfl (by decide) dX5_lakes_29 ?_
        refine z_cge (pc := 32) (tgt := 97) hc (by omega) (by decide) dX5_lakes_32 (fun h32 => ?_) (fun h32 => ?_)
        · show zJW X 97 [(3, zI ((((M 0 1).toNat) : Nat) : Int)), (2, zI ((i11 : Nat) : Int)), (1, zI ((zrep (rgX false 2 gLk ((i11 : Nat) : Int)) ((M 0 1).toNat) (zrep (rgO false 2 gLk (M 0 1).toNat) i11 (fgX M, ((0 : Int), (0 : Int))))).2.1)), (0, zR 27)] [] ((zrep (rgX false 2 gLk ((i11 : Nat) : Int)) ((M 0 1).toNat) (zrep (rgO false 2 gLk (M 0 1).toNat) i11 (fgX M, ((0 : Int), (0 : Int))))).1)
          refine z_iinc (pc := 97) (lv' := [(2, zI (((i11 : Nat) : Int) + 1)), (3, zI ((((M 0 1).toNat) : Nat) : Int)), (1, zI ((zrep (rgX false 2 gLk ((i11 : Nat) : Int)) ((M 0 1).toNat) (zrep (rgO false 2 gLk (M 0 1).toNat) i11 (fgX M, ((0 : Int), (0 : Int))))).2.1)), (0, zR 27)]) hc 1 rfl rfl (by decide) dX5_lakes_97 ?_
          refine z_goto (pc := 100) (tgt := 11) hc (by decide) dX5_lakes_100 ?_
          refine zJW_sub (lv' := [(2, zI (((i11 : Nat) : Int) + 1)), (1, zI ((zrep (rgX false 2 gLk ((i11 : Nat) : Int)) ((M 0 1).toNat) (zrep (rgO false 2 gLk (M 0 1).toNat) i11 (fgX M, ((0 : Int), (0 : Int))))).2.1)), (0, zR 27)]) [0, 2, 3] rfl ?_
          exact zJW_eq (by rfl) rfl (by rfl) ih11
        · exfalso; omega
      · show zJW X 24 [(3, zI ((i24 : Nat) : Int)), (2, zI ((i11 : Nat) : Int)), (1, zI ((zrep (rgX false 2 gLk ((i11 : Nat) : Int)) i24 (zrep (rgO false 2 gLk (M 0 1).toNat) i11 (fgX M, ((0 : Int), (0 : Int))))).2.1)), (0, zR 27)] [] ((zrep (rgX false 2 gLk ((i11 : Nat) : Int)) i24 (zrep (rgO false 2 gLk (M 0 1).toNat) i11 (fgX M, ((0 : Int), (0 : Int))))).1)
        have hi : rgP (fgX M) (zrep (rgX false 2 gLk ((i11 : Nat) : Int)) i24 (zrep (rgO false 2 gLk (M 0 1).toNat) i11 (fgX M, ((0 : Int), (0 : Int))))).1 := zrep_inv (P := fun q : Mem × (Int × Int) => rgP (fgX M) q.1) ho _ (fun _ _ _ hx => rgX_P hx)
        have hiz : (zrep (rgX false 2 gLk ((i11 : Nat) : Int)) i24 (zrep (rgO false 2 gLk (M 0 1).toNat) i11 (fgX M, ((0 : Int), (0 : Int))))).1 0 = M 0 := (hi.2.2.1 0 (by decide) (by decide) (by decide)).trans hf0
        have hiz0 := congrFun hiz 0
        have hiz1 := congrFun hiz 1
        have hiS := hi.1
        have hiV := hi.2.2.2
        have hiT : inT (tsX (zrep (rgX false 2 gLk ((i11 : Nat) : Int)) i24 (zrep (rgO false 2 gLk (M 0 1).toNat) i11 (fgX M, ((0 : Int), (0 : Int))))).1 0) ((i11 : Nat) : Int) ((i24 : Nat) : Int) = true := by
          rw [hi.2.1, htf, inT_X]
          exact decide_eq_true (by omega)
        have hiv := hiV (((i11 : Nat) : Int) * 12 + ((i24 : Nat) : Int)) (by omega) (by omega)
        refine z_ild (pc := 24) hc 0 rfl dX5_lakes_24 ?_
        refine z_ald (pc := 25) hc 3 rfl dX5_lakes_25 ?_
        refine fg_X5_19 (pc := 26) hc rfl rfl dX5_lakes_26 ?_
        refine fg_X5_99 (pc := 29) hc rfl rfl (by decide) dX5_lakes_29 ?_
        refine z_cge (pc := 32) (tgt := 97) hc (by omega) (by decide) dX5_lakes_32 (fun h32 => ?_) (fun h32 => ?_)
        · exfalso; omega
        · show zJW X 35 [(3, zI ((i24 : Nat) : Int)), (2, zI ((i11 : Nat) : Int)), (1, zI ((zrep (rgX false 2 gLk ((i11 : Nat) : Int)) i24 (zrep (rgO false 2 gLk (M 0 1).toNat) i11 (fgX M, ((0 : Int), (0 : Int))))).2.1)), (0, zR 27)] [] ((zrep (rgX false 2 gLk ((i11 : Nat) : Int)) i24 (zrep (rgO false 2 gLk (M 0 1).toNat) i11 (fgX M, ((0 : Int), (0 : Int))))).1)
          refine z_ald (pc := 35) hc 3 rfl dX5_lakes_35 ?_
          refine fg_X5_19 (pc := 36) hc rfl rfl dX5_lakes_36 ?_
          refine z_ild (pc := 39) hc 1 rfl dX5_lakes_39 ?_
          refine z_ild (pc := 40) hc 0 rfl dX5_lakes_40 ?_
          refine kc_X5_77 (pc := 41) hc rfl (zfitX (by decide) rfl rfl) rfl (by decide) (Nat.le_of_ble_eq_true rfl) (ct_X3_isLandAt ((zrep (rgX false 2 gLk ((i11 : Nat) : Int)) i24 (zrep (rgO false 2 gLk (M 0 1).toNat) i11 (fgX M, ((0 : Int), (0 : Int))))).1) 0 (by omega) (by first | assumption ) ((i11 : Nat) : Int) ((i24 : Nat) : Int) (by omega) (by omega)) dX5_lakes_41 ?_
          refine z_bne (pc := 44) (tgt := 91) hc (by decide) dX5_lakes_44 (fun h44 => ?_) (fun h44 => ?_)
          · show zJW X 91 [(3, zI ((i24 : Nat) : Int)), (2, zI ((i11 : Nat) : Int)), (1, zI ((zrep (rgX false 2 gLk ((i11 : Nat) : Int)) i24 (zrep (rgO false 2 gLk (M 0 1).toNat) i11 (fgX M, ((0 : Int), (0 : Int))))).2.1)), (0, zR 27)] [] ((zrep (rgX false 2 gLk ((i11 : Nat) : Int)) i24 (zrep (rgO false 2 gLk (M 0 1).toNat) i11 (fgX M, ((0 : Int), (0 : Int))))).1)
            refine z_iinc (pc := 91) (lv' := [(3, zI (((i24 : Nat) : Int) + 1)), (2, zI ((i11 : Nat) : Int)), (1, zI ((zrep (rgX false 2 gLk ((i11 : Nat) : Int)) i24 (zrep (rgO false 2 gLk (M 0 1).toNat) i11 (fgX M, ((0 : Int), (0 : Int))))).2.1)), (0, zR 27)]) hc 0 rfl rfl (by decide) dX5_lakes_91 ?_
            refine z_goto (pc := 94) (tgt := 24) hc (by decide) dX5_lakes_94 ?_
            exact zJW_eq (by rw [zrep_succ]; first | (rw [rgX_n1 h44]; rfl) | (rw [rgX_n2 h56]; rfl) | (rw [rgX_y h44 h56]; simp only [gLk]; rw [if_pos (by omega)]; rfl) | (rw [rgX_y h44 h56]; simp only [gLk]; rw [if_neg (by omega)]; rfl)) rfl (by rw [zrep_succ]; first | (rw [rgX_n1 h44]; done) | (rw [rgX_n2 h56]; done) | (rw [rgX_y h44 h56]; done)) ih24
          · show zJW X 47 [(3, zI ((i24 : Nat) : Int)), (2, zI ((i11 : Nat) : Int)), (1, zI ((zrep (rgX false 2 gLk ((i11 : Nat) : Int)) i24 (zrep (rgO false 2 gLk (M 0 1).toNat) i11 (fgX M, ((0 : Int), (0 : Int))))).2.1)), (0, zR 27)] [] ((zrep (rgX false 2 gLk ((i11 : Nat) : Int)) i24 (zrep (rgO false 2 gLk (M 0 1).toNat) i11 (fgX M, ((0 : Int), (0 : Int))))).1)
            refine z_ald (pc := 47) hc 3 rfl dX5_lakes_47 ?_
            refine fg_X5_43 (pc := 48) hc rfl rfl dX5_lakes_48 ?_
            refine z_ild (pc := 51) hc 1 rfl dX5_lakes_51 ?_
            refine z_ild (pc := 52) hc 0 rfl dX5_lakes_52 ?_
            refine kc_X5_102 (pc := 53) hc rfl (zfitX (by decide) rfl rfl) rfl (Nat.le_of_ble_eq_true rfl) (ct_X2_hasReached ((zrep (rgX false 2 gLk ((i11 : Nat) : Int)) i24 (zrep (rgO false 2 gLk (M 0 1).toNat) i11 (fgX M, ((0 : Int), (0 : Int))))).1) ((i11 : Nat) : Int) ((i24 : Nat) : Int) (by omega) (by omega) (by first | assumption | omega)) dX5_lakes_53 ?_
            refine z_bne (pc := 56) (tgt := 91) hc (by decide) dX5_lakes_56 (fun h56 => ?_) (fun h56 => ?_)
            · show zJW X 91 [(3, zI ((i24 : Nat) : Int)), (2, zI ((i11 : Nat) : Int)), (1, zI ((zrep (rgX false 2 gLk ((i11 : Nat) : Int)) i24 (zrep (rgO false 2 gLk (M 0 1).toNat) i11 (fgX M, ((0 : Int), (0 : Int))))).2.1)), (0, zR 27)] [] ((zrep (rgX false 2 gLk ((i11 : Nat) : Int)) i24 (zrep (rgO false 2 gLk (M 0 1).toNat) i11 (fgX M, ((0 : Int), (0 : Int))))).1)
              refine z_iinc (pc := 91) (lv' := [(3, zI (((i24 : Nat) : Int) + 1)), (2, zI ((i11 : Nat) : Int)), (1, zI ((zrep (rgX false 2 gLk ((i11 : Nat) : Int)) i24 (zrep (rgO false 2 gLk (M 0 1).toNat) i11 (fgX M, ((0 : Int), (0 : Int))))).2.1)), (0, zR 27)]) hc 0 rfl rfl (by decide) dX5_lakes_91 ?_
              refine z_goto (pc := 94) (tgt := 24) hc (by decide) dX5_lakes_94 ?_
              exact zJW_eq (by rw [zrep_succ]; first | (rw [rgX_n1 h44]; rfl) | (rw [rgX_n2 h56]; rfl) | (rw [rgX_y h44 h56]; simp only [gLk]; rw [if_pos (by omega)]; rfl) | (rw [rgX_y h44 h56]; simp only [gLk]; rw [if_neg (by omega)]; rfl)) rfl (by rw [zrep_succ]; first | (rw [rgX_n1 h44]; done) | (rw [rgX_n2 h56]; done) | (rw [rgX_y h44 h56]; done)) ih24
            · show zJW X 59 [(3, zI ((i24 : Nat) : Int)), (2, zI ((i11 : Nat) : Int)), (1, zI ((zrep (rgX false 2 gLk ((i11 : Nat) : Int)) i24 (zrep (rgO false 2 gLk (M 0 1).toNat) i11 (fgX M, ((0 : Int), (0 : Int))))).2.1)), (0, zR 27)] [] ((zrep (rgX false 2 gLk ((i11 : Nat) : Int)) i24 (zrep (rgO false 2 gLk (M 0 1).toNat) i11 (fgX M, ((0 : Int), (0 : Int))))).1)
              have h56 := Decidable.not_not.mp (of_decide_eq_false h56)
              refine z_ald (pc := 59) hc 3 rfl dX5_lakes_59 ?_
              refine fg_X5_43 (pc := 60) hc rfl rfl dX5_lakes_60 ?_
              refine z_ald (pc := 63) hc 3 rfl dX5_lakes_63 ?_
              refine fg_X5_19 (pc := 64) hc rfl rfl dX5_lakes_64 ?_
              refine z_ild (pc := 67) hc 1 rfl dX5_lakes_67 ?_
              refine z_ild (pc := 68) hc 0 rfl dX5_lakes_68 ?_
              refine z_iconst (pc := 69) hc 2 dX5_lakes_69 ?_
              refine kc_X5_91 (pc := 70) hc rfl (zfitX (by decide) rfl rfl) rfl (Nat.le_of_ble_eq_true rfl) (ct_X2_ovr2 ((zrep (rgX false 2 gLk ((i11 : Nat) : Int)) i24 (zrep (rgO false 2 gLk (M 0 1).toNat) i11 (fgX M, ((0 : Int), (0 : Int))))).1) (by assumption) (by assumption) ((i11 : Nat) : Int) ((i24 : Nat) : Int) (by assumption)) dX5_lakes_70 ?_
              rw [h44]
              have hg := (ovX_rg (e := 2) hi h44).2
              obtain ⟨hg1, hg2, hg3⟩ := hg
              refine z_ild (pc := 73) hc 2 rfl dX5_lakes_73 ?_
              refine z_ald (pc := 74) hc 3 rfl dX5_lakes_74 ?_
              refine fg_X5_43 (pc := 75) hc rfl rfl dX5_lakes_75 ?_
              refine fg_X5_172 (pc := 78) hc rfl rfl dX5_lakes_78 ?_
              refine z_ieq (pc := 81) (tgt := 88) hc (by omega) (by decide) dX5_lakes_81 (fun h81 => ?_) (fun h81 => ?_)
              · show zJW X 88 [(3, zI ((i24 : Nat) : Int)), (2, zI ((i11 : Nat) : Int)), (1, zI ((zrep (rgX false 2 gLk ((i11 : Nat) : Int)) i24 (zrep (rgO false 2 gLk (M 0 1).toNat) i11 (fgX M, ((0 : Int), (0 : Int))))).2.1)), (0, zR 27)] [zI ((zrep (rgX false 2 gLk ((i11 : Nat) : Int)) i24 (zrep (rgO false 2 gLk (M 0 1).toNat) i11 (fgX M, ((0 : Int), (0 : Int))))).2.1)] (ovX (zrep (rgX false 2 gLk ((i11 : Nat) : Int)) i24 (zrep (rgO false 2 gLk (M 0 1).toNat) i11 (fgX M, ((0 : Int), (0 : Int))))).1 false ((i11 : Nat) : Int) ((i24 : Nat) : Int) 2 144)
                refine z_iconst (pc := 88) hc 1 dX5_lakes_88 ?_
                refine z_iadd (pc := 89) hc dX5_lakes_89 ?_
                refine z_ist (pc := 90) (lv' := [(1, zI ((zrep (rgX false 2 gLk ((i11 : Nat) : Int)) i24 (zrep (rgO false 2 gLk (M 0 1).toNat) i11 (fgX M, ((0 : Int), (0 : Int))))).2.1 + 1)), (3, zI ((i24 : Nat) : Int)), (2, zI ((i11 : Nat) : Int)), (0, zR 27)]) hc rfl (by decide) dX5_lakes_90 ?_
                refine z_iinc (pc := 91) (lv' := [(3, zI (((i24 : Nat) : Int) + 1)), (1, zI ((zrep (rgX false 2 gLk ((i11 : Nat) : Int)) i24 (zrep (rgO false 2 gLk (M 0 1).toNat) i11 (fgX M, ((0 : Int), (0 : Int))))).2.1 + 1)), (2, zI ((i11 : Nat) : Int)), (0, zR 27)]) hc 1 rfl rfl (by decide) dX5_lakes_91 ?_
                refine z_goto (pc := 94) (tgt := 24) hc (by decide) dX5_lakes_94 ?_
                refine zJW_sub (lv' := [(3, zI (((i24 : Nat) : Int) + 1)), (2, zI ((i11 : Nat) : Int)), (1, zI ((zrep (rgX false 2 gLk ((i11 : Nat) : Int)) i24 (zrep (rgO false 2 gLk (M 0 1).toNat) i11 (fgX M, ((0 : Int), (0 : Int))))).2.1 + 1)), (0, zR 27)]) [0, 2, 1, 3] rfl ?_
                exact zJW_eq (by rw [zrep_succ]; first | (rw [rgX_n1 h44]; rfl) | (rw [rgX_n2 h56]; rfl) | (rw [rgX_y h44 h56]; simp only [gLk]; rw [if_pos (by omega)]; rfl) | (rw [rgX_y h44 h56]; simp only [gLk]; rw [if_neg (by omega)]; rfl)) rfl (by rw [zrep_succ]; first | (rw [rgX_n1 h44]; done) | (rw [rgX_n2 h56]; done) | (rw [rgX_y h44 h56]; done)) ih24
              · show zJW X 84 [(3, zI ((i24 : Nat) : Int)), (2, zI ((i11 : Nat) : Int)), (1, zI ((zrep (rgX false 2 gLk ((i11 : Nat) : Int)) i24 (zrep (rgO false 2 gLk (M 0 1).toNat) i11 (fgX M, ((0 : Int), (0 : Int))))).2.1)), (0, zR 27)] [zI ((zrep (rgX false 2 gLk ((i11 : Nat) : Int)) i24 (zrep (rgO false 2 gLk (M 0 1).toNat) i11 (fgX M, ((0 : Int), (0 : Int))))).2.1)] (ovX (zrep (rgX false 2 gLk ((i11 : Nat) : Int)) i24 (zrep (rgO false 2 gLk (M 0 1).toNat) i11 (fgX M, ((0 : Int), (0 : Int))))).1 false ((i11 : Nat) : Int) ((i24 : Nat) : Int) 2 144)
                refine z_iconst (pc := 84) hc 0 dX5_lakes_84 ?_
                refine z_goto (pc := 85) (tgt := 89) hc (by decide) dX5_lakes_85 ?_
                refine z_iadd (pc := 89) hc dX5_lakes_89 ?_
                refine z_ist (pc := 90) (lv' := [(1, zI ((zrep (rgX false 2 gLk ((i11 : Nat) : Int)) i24 (zrep (rgO false 2 gLk (M 0 1).toNat) i11 (fgX M, ((0 : Int), (0 : Int))))).2.1 + 0)), (3, zI ((i24 : Nat) : Int)), (2, zI ((i11 : Nat) : Int)), (0, zR 27)]) hc rfl (by decide) dX5_lakes_90 ?_
                refine z_iinc (pc := 91) (lv' := [(3, zI (((i24 : Nat) : Int) + 1)), (1, zI ((zrep (rgX false 2 gLk ((i11 : Nat) : Int)) i24 (zrep (rgO false 2 gLk (M 0 1).toNat) i11 (fgX M, ((0 : Int), (0 : Int))))).2.1 + 0)), (2, zI ((i11 : Nat) : Int)), (0, zR 27)]) hc 1 rfl rfl (by decide) dX5_lakes_91 ?_
                refine z_goto (pc := 94) (tgt := 24) hc (by decide) dX5_lakes_94 ?_
                refine zJW_sub (lv' := [(3, zI (((i24 : Nat) : Int) + 1)), (2, zI ((i11 : Nat) : Int)), (1, zI ((zrep (rgX false 2 gLk ((i11 : Nat) : Int)) i24 (zrep (rgO false 2 gLk (M 0 1).toNat) i11 (fgX M, ((0 : Int), (0 : Int))))).2.1 + 0)), (0, zR 27)]) [0, 2, 1, 3] rfl ?_
                exact zJW_eq (by rw [zrep_succ]; first | (rw [rgX_n1 h44]; rfl) | (rw [rgX_n2 h56]; rfl) | (rw [rgX_y h44 h56]; simp only [gLk]; rw [if_pos (by omega)]; rfl) | (rw [rgX_y h44 h56]; simp only [gLk]; rw [if_neg (by omega)]; rfl)) rfl (by rw [zrep_succ]; first | (rw [rgX_n1 h44]; done) | (rw [rgX_n2 h56]; done) | (rw [rgX_y h44 h56]; done)) ih24

set_option maxRecDepth 100000 in
set_option maxHeartbeats 4000000 in
theorem ct_X5_largestIsland (M : Mem) (hS : zSk M 0)  : zCt yX5_largestIsland KX5_largestIsland [zR 27] M (fun zv zM => zv = some ((zrep (rgO true 1 gLg (M 0 1).toNat) (M 0 0).toNat (fgX M, ((0 : Int), (-6 : Int)))).2.2) ∧ zM = (zrep (rgO true 1 gLg (M 0 1).toNat) (M 0 0).toNat (fgX M, ((0 : Int), (-6 : Int)))).1) := by
  obtain ⟨hs1, hs2, hs3, hs4, hs5, hs6, hs7⟩ := id hS
  have hF := fgX_P hS
  have hf1 := hF.1
  have hf4 := hF.2.2.2
  have htf : tsX (fgX M) 0 = tsX M 0 := tsX_congr (fgX_off (by decide)) (fgX_off (by decide)) (fgX_off (by decide))
  have hf0 : fgX M 0 = M 0 := fgX_off (by decide)
  refine z_met (by decide) rfl (Nat.le_of_ble_eq_true rfl) (fun X hc he => ?_)
  show zJW X 0 [(0, zR 27)] [] M
  refine z_ald (pc := 0) hc 0 rfl dX5_largestIsland_0 ?_
  refine fg_X5_43 (pc := 1) hc rfl rfl dX5_largestIsland_1 ?_
  refine kc_X5_88 (pc := 4) hc rfl (zfitX (by decide) rfl rfl) rfl (Nat.le_of_ble_eq_true rfl) (ct_X2_forg M) dX5_largestIsland_4 ?_
  refine z_iconst (pc := 7) hc 0 dX5_largestIsland_7 ?_
  refine z_ist (pc := 8) (lv' := [(1, zI 0), (0, zR 27)]) hc rfl (by decide) dX5_largestIsland_8 ?_
  refine z_bipush (pc := 9) hc (-6) (by decide) dX5_largestIsland_9 ?_
  refine z_ist (pc := 11) (lv' := [(2, zI (-6)), (1, zI 0), (0, zR 27)]) hc rfl (by decide) dX5_largestIsland_11 ?_
  refine z_iconst (pc := 12) hc 0 dX5_largestIsland_12 ?_
  refine z_ist (pc := 13) (lv' := [(3, zI 0), (2, zI (-6)), (1, zI 0), (0, zR 27)]) hc rfl (by decide) dX5_largestIsland_13 ?_
  refine z_for ((M 0 0).toNat) (fun i14 => [(3, zI ((i14 : Nat) : Int)), (2, zI ((zrep (rgO true 1 gLg (M 0 1).toNat) i14 (fgX M, ((0 : Int), (-6 : Int)))).2.2)), (1, zI ((zrep (rgO true 1 gLg (M 0 1).toNat) i14 (fgX M, ((0 : Int), (-6 : Int)))).2.1)), (0, zR 27)]) (fun i14 => (zrep (rgO true 1 gLg (M 0 1).toNat) i14 (fgX M, ((0 : Int), (-6 : Int)))).1) (by rfl) (by rfl) ?_ (fun i14 hi14 ih14 => ?_)
  · show zJW X 14 [(3, zI ((((M 0 0).toNat) : Nat) : Int)), (2, zI ((zrep (rgO true 1 gLg (M 0 1).toNat) ((M 0 0).toNat) (fgX M, ((0 : Int), (-6 : Int)))).2.2)), (1, zI ((zrep (rgO true 1 gLg (M 0 1).toNat) ((M 0 0).toNat) (fgX M, ((0 : Int), (-6 : Int)))).2.1)), (0, zR 27)] [] ((zrep (rgO true 1 gLg (M 0 1).toNat) ((M 0 0).toNat) (fgX M, ((0 : Int), (-6 : Int)))).1)
    have hx : rgP (fgX M) (zrep (rgO true 1 gLg (M 0 1).toNat) (M 0 0).toNat (fgX M, ((0 : Int), (-6 : Int)))).1 ∧ rgQ (zrep (rgO true 1 gLg (M 0 1).toNat) (M 0 0).toNat (fgX M, ((0 : Int), (-6 : Int)))) := zrep_inv (P := fun q : Mem × (Int × Int) => rgP (fgX M) q.1 ∧ rgQ q) (show rgP (fgX M) (fgX M) ∧ rgQ (fgX M, ((0 : Int), (-6 : Int))) from ⟨hF, (Int.le_refl 0 : (0 : Int) ≤ 0), (show (0 : Int) ≤ 144 by decide)⟩) _ (fun _ _ _ hx => rgO_PQ hx)
    have hxz : (zrep (rgO true 1 gLg (M 0 1).toNat) (M 0 0).toNat (fgX M, ((0 : Int), (-6 : Int)))).1 0 = M 0 := (hx.1.2.2.1 0 (by decide) (by decide) (by decide)).trans hf0
    have hxz0 := congrFun hxz 0
    have hxz1 := congrFun hxz 1
    refine z_ild (pc := 14) hc 0 rfl dX5_largestIsland_14 ?_
    refine z_ald (pc := 15) hc 3 rfl dX5_largestIsland_15 ?_
    refine fg_X5_19 (pc := 16) hc rfl rfl dX5_largestIsland_16 ?_
    refine fg_X5_95 (pc := 19) hc rfl rfl (by decide) dX5_largestIsland_19 ?_
    refine z_cge (pc := 22) (tgt := 119) hc (by omega) (by decide) dX5_largestIsland_22 (fun h22 => ?_) (fun h22 => ?_)
    · show zJW X 119 [(3, zI ((((M 0 0).toNat) : Nat) : Int)), (2, zI ((zrep (rgO true 1 gLg (M 0 1).toNat) ((M 0 0).toNat) (fgX M, ((0 : Int), (-6 : Int)))).2.2)), (1, zI ((zrep (rgO true 1 gLg (M 0 1).toNat) ((M 0 0).toNat) (fgX M, ((0 : Int), (-6 : Int)))).2.1)), (0, zR 27)] [] ((zrep (rgO true 1 gLg (M 0 1).toNat) ((M 0 0).toNat) (fgX M, ((0 : Int), (-6 : Int)))).1)
      refine z_ild (pc := 119) hc 1 rfl dX5_largestIsland_119 ?_
      exact z_iret (pc := 120) hc he rfl dX5_largestIsland_120 (⟨rfl, rfl⟩)
    · exfalso; omega
  · show zJW X 14 [(3, zI ((i14 : Nat) : Int)), (2, zI ((zrep (rgO true 1 gLg (M 0 1).toNat) i14 (fgX M, ((0 : Int), (-6 : Int)))).2.2)), (1, zI ((zrep (rgO true 1 gLg (M 0 1).toNat) i14 (fgX M, ((0 : Int), (-6 : Int)))).2.1)), (0, zR 27)] [] ((zrep (rgO true 1 gLg (M 0 1).toNat) i14 (fgX M, ((0 : Int), (-6 : Int)))).1)
    have ho : rgP (fgX M) (zrep (rgO true 1 gLg (M 0 1).toNat) i14 (fgX M, ((0 : Int), (-6 : Int)))).1 ∧ rgQ (zrep (rgO true 1 gLg (M 0 1).toNat) i14 (fgX M, ((0 : Int), (-6 : Int)))) := zrep_inv (P := fun q : Mem × (Int × Int) => rgP (fgX M) q.1 ∧ rgQ q) (show rgP (fgX M) (fgX M) ∧ rgQ (fgX M, ((0 : Int), (-6 : Int))) from ⟨hF, (Int.le_refl 0 : (0 : Int) ≤ 0), (show (0 : Int) ≤ 144 by decide)⟩) _ (fun _ _ _ hx => rgO_PQ hx)
    have hoz : (zrep (rgO true 1 gLg (M 0 1).toNat) i14 (fgX M, ((0 : Int), (-6 : Int)))).1 0 = M 0 := (ho.1.2.2.1 0 (by decide) (by decide) (by decide)).trans hf0
    have hoz0 := congrFun hoz 0
    have hoz1 := congrFun hoz 1
    refine z_ild (pc := 14) hc 0 rfl dX5_largestIsland_14 ?_
    refine z_ald (pc := 15) hc 3 rfl dX5_largestIsland_15 ?_
    refine fg_X5_19 (pc := 16) hc rfl rfl dX5_largestIsland_16 ?_
    refine fg_X5_95 (pc := 19) hc rfl rfl (by decide) dX5_largestIsland_19 ?_
    refine z_cge (pc := 22) (tgt := 119) hc (by omega) (by decide) dX5_largestIsland_22 (fun h22 => ?_) (fun h22 => ?_)
    · exfalso; omega
    · show zJW X 25 [(3, zI ((i14 : Nat) : Int)), (2, zI ((zrep (rgO true 1 gLg (M 0 1).toNat) i14 (fgX M, ((0 : Int), (-6 : Int)))).2.2)), (1, zI ((zrep (rgO true 1 gLg (M 0 1).toNat) i14 (fgX M, ((0 : Int), (-6 : Int)))).2.1)), (0, zR 27)] [] ((zrep (rgO true 1 gLg (M 0 1).toNat) i14 (fgX M, ((0 : Int), (-6 : Int)))).1)
      refine z_iconst (pc := 25) hc 0 dX5_largestIsland_25 ?_
      refine z_isw (pc := 26) (lv' := [(4, zI 0), (3, zI ((i14 : Nat) : Int)), (2, zI ((zrep (rgO true 1 gLg (M 0 1).toNat) i14 (fgX M, ((0 : Int), (-6 : Int)))).2.2)), (1, zI ((zrep (rgO true 1 gLg (M 0 1).toNat) i14 (fgX M, ((0 : Int), (-6 : Int)))).2.1)), (0, zR 27)]) hc rfl (by decide) dX5_largestIsland_26 ?_
      refine z_for ((M 0 1).toNat) (fun i28 => [(4, zI ((i28 : Nat) : Int)), (3, zI ((i14 : Nat) : Int)), (2, zI ((zrep (rgX true 1 gLg ((i14 : Nat) : Int)) i28 (zrep (rgO true 1 gLg (M 0 1).toNat) i14 (fgX M, ((0 : Int), (-6 : Int))))).2.2)), (1, zI ((zrep (rgX true 1 gLg ((i14 : Nat) : Int)) i28 (zrep (rgO true 1 gLg (M 0 1).toNat) i14 (fgX M, ((0 : Int), (-6 : Int))))).2.1)), (0, zR 27)]) (fun i28 => (zrep (rgX true 1 gLg ((i14 : Nat) : Int)) i28 (zrep (rgO true 1 gLg (M 0 1).toNat) i14 (fgX M, ((0 : Int), (-6 : Int))))).1) (by rfl) (by rfl) ?_ (fun i28 hi28 ih28 => ?_)
      · show zJW X 28 [(4, zI ((((M 0 1).toNat) : Nat) : Int)), (3, zI ((i14 : Nat) : Int)), (2, zI ((zrep (rgX true 1 gLg ((i14 : Nat) : Int)) ((M 0 1).toNat) (zrep (rgO true 1 gLg (M 0 1).toNat) i14 (fgX M, ((0 : Int), (-6 : Int))))).2.2)), (1, zI ((zrep (rgX true 1 gLg ((i14 : Nat) : Int)) ((M 0 1).toNat) (zrep (rgO true 1 gLg (M 0 1).toNat) i14 (fgX M, ((0 : Int), (-6 : Int))))).2.1)), (0, zR 27)] [] ((zrep (rgX true 1 gLg ((i14 : Nat) : Int)) ((M 0 1).toNat) (zrep (rgO true 1 gLg (M 0 1).toNat) i14 (fgX M, ((0 : Int), (-6 : Int))))).1)
        have hy : rgP (fgX M) (zrep (rgX true 1 gLg ((i14 : Nat) : Int)) (M 0 1).toNat (zrep (rgO true 1 gLg (M 0 1).toNat) i14 (fgX M, ((0 : Int), (-6 : Int))))).1 ∧ rgQ (zrep (rgX true 1 gLg ((i14 : Nat) : Int)) (M 0 1).toNat (zrep (rgO true 1 gLg (M 0 1).toNat) i14 (fgX M, ((0 : Int), (-6 : Int))))) := zrep_inv (P := fun q : Mem × (Int × Int) => rgP (fgX M) q.1 ∧ rgQ q) ho _ (fun _ _ _ hx => rgX_PQ hx)
        have hyz : (zrep (rgX true 1 gLg ((i14 : Nat) : Int)) (M 0 1).toNat (zrep (rgO true 1 gLg (M 0 1).toNat) i14 (fgX M, ((0 : Int), (-6 : Int))))).1 0 = M 0 := (hy.1.2.2.1 0 (by decide) (by decide) (by decide)).trans hf0
        have hyz0 := congrFun hyz 0
        have hyz1 := congrFun hyz 1
        refine z_ilw (pc := 28) hc 0 rfl dX5_largestIsland_28 ?_
        refine z_ald (pc := 30) hc 4 rfl dX5_largestIsland_30 ?_
        refine fg_X5_19 (pc := 31) hc rfl rfl dX5_largestIsland_31 ?_
        refine fg_X5_99 (pc := 34) hc rfl rfl (by decide) dX5_largestIsland_34 ?_
        refine z_cge (pc := 37) (tgt := 113) hc (by omega) (by decide) dX5_largestIsland_37 (fun h37 => ?_) (fun h37 => ?_)
        · show zJW X 113 [(4, zI ((((M 0 1).toNat) : Nat) : Int)), (3, zI ((i14 : Nat) : Int)), (2, zI ((zrep (rgX true 1 gLg ((i14 : Nat) : Int)) ((M 0 1).toNat) (zrep (rgO true 1 gLg (M 0 1).toNat) i14 (fgX M, ((0 : Int), (-6 : Int))))).2.2)), (1, zI ((zrep (rgX true 1 gLg ((i14 : Nat) : Int)) ((M 0 1).toNat) (zrep (rgO true 1 gLg (M 0 1).toNat) i14 (fgX M, ((0 : Int), (-6 : Int))))).2.1)), (0, zR 27)] [] ((zrep (rgX true 1 gLg ((i14 : Nat) : Int)) ((M 0 1).toNat) (zrep (rgO true 1 gLg (M 0 1).toNat) i14 (fgX M, ((0 : Int), (-6 : Int))))).1)
          refine z_iinc (pc := 113) (lv' := [(3, zI (((i14 : Nat) : Int) + 1)), (4, zI ((((M 0 1).toNat) : Nat) : Int)), (2, zI ((zrep (rgX true 1 gLg ((i14 : Nat) : Int)) ((M 0 1).toNat) (zrep (rgO true 1 gLg (M 0 1).toNat) i14 (fgX M, ((0 : Int), (-6 : Int))))).2.2)), (1, zI ((zrep (rgX true 1 gLg ((i14 : Nat) : Int)) ((M 0 1).toNat) (zrep (rgO true 1 gLg (M 0 1).toNat) i14 (fgX M, ((0 : Int), (-6 : Int))))).2.1)), (0, zR 27)]) hc 1 rfl rfl (by decide) dX5_largestIsland_113 ?_
          refine z_goto (pc := 116) (tgt := 14) hc (by decide) dX5_largestIsland_116 ?_
          refine zJW_sub (lv' := [(3, zI (((i14 : Nat) : Int) + 1)), (2, zI ((zrep (rgX true 1 gLg ((i14 : Nat) : Int)) ((M 0 1).toNat) (zrep (rgO true 1 gLg (M 0 1).toNat) i14 (fgX M, ((0 : Int), (-6 : Int))))).2.2)), (1, zI ((zrep (rgX true 1 gLg ((i14 : Nat) : Int)) ((M 0 1).toNat) (zrep (rgO true 1 gLg (M 0 1).toNat) i14 (fgX M, ((0 : Int), (-6 : Int))))).2.1)), (0, zR 27)]) [0, 2, 3, 4] rfl ?_
          exact zJW_eq (by rfl) rfl (by rfl) ih14
        · exfalso; omega
      · show zJW X 28 [(4, zI ((i28 : Nat) : Int)), (3, zI ((i14 : Nat) : Int)), (2, zI ((zrep (rgX true 1 gLg ((i14 : Nat) : Int)) i28 (zrep (rgO true 1 gLg (M 0 1).toNat) i14 (fgX M, ((0 : Int), (-6 : Int))))).2.2)), (1, zI ((zrep (rgX true 1 gLg ((i14 : Nat) : Int)) i28 (zrep (rgO true 1 gLg (M 0 1).toNat) i14 (fgX M, ((0 : Int), (-6 : Int))))).2.1)), (0, zR 27)] [] ((zrep (rgX true 1 gLg ((i14 : Nat) : Int)) i28 (zrep (rgO true 1 gLg (M 0 1).toNat) i14 (fgX M, ((0 : Int), (-6 : Int))))).1)
        have hi : rgP (fgX M) (zrep (rgX true 1 gLg ((i14 : Nat) : Int)) i28 (zrep (rgO true 1 gLg (M 0 1).toNat) i14 (fgX M, ((0 : Int), (-6 : Int))))).1 ∧ rgQ (zrep (rgX true 1 gLg ((i14 : Nat) : Int)) i28 (zrep (rgO true 1 gLg (M 0 1).toNat) i14 (fgX M, ((0 : Int), (-6 : Int))))) := zrep_inv (P := fun q : Mem × (Int × Int) => rgP (fgX M) q.1 ∧ rgQ q) ho _ (fun _ _ _ hx => rgX_PQ hx)
        have hiz : (zrep (rgX true 1 gLg ((i14 : Nat) : Int)) i28 (zrep (rgO true 1 gLg (M 0 1).toNat) i14 (fgX M, ((0 : Int), (-6 : Int))))).1 0 = M 0 := (hi.1.2.2.1 0 (by decide) (by decide) (by decide)).trans hf0
        have hiz0 := congrFun hiz 0
        have hiz1 := congrFun hiz 1
        have hiS := hi.1.1
        have hiV := hi.1.2.2.2
        have hiT : inT (tsX (zrep (rgX true 1 gLg ((i14 : Nat) : Int)) i28 (zrep (rgO true 1 gLg (M 0 1).toNat) i14 (fgX M, ((0 : Int), (-6 : Int))))).1 0) ((i14 : Nat) : Int) ((i28 : Nat) : Int) = true := by
          rw [hi.1.2.1, htf, inT_X]
          exact decide_eq_true (by omega)
        have hiv := hiV (((i14 : Nat) : Int) * 12 + ((i28 : Nat) : Int)) (by omega) (by omega)
        obtain ⟨hq1, hq2⟩ := hi.2
        refine z_ilw (pc := 28) hc 0 rfl dX5_largestIsland_28 ?_
        refine z_ald (pc := 30) hc 4 rfl dX5_largestIsland_30 ?_
        refine fg_X5_19 (pc := 31) hc rfl rfl dX5_largestIsland_31 ?_
        refine fg_X5_99 (pc := 34) hc rfl rfl (by decide) dX5_largestIsland_34 ?_
        refine z_cge (pc := 37) (tgt := 113) hc (by omega) (by decide) dX5_largestIsland_37 (fun h37 => ?_) (fun h37 => ?_)
        · exfalso; omega
        · show zJW X 40 [(4, zI ((i28 : Nat) : Int)), (3, zI ((i14 : Nat) : Int)), (2, zI ((zrep (rgX true 1 gLg ((i14 : Nat) : Int)) i28 (zrep (rgO true 1 gLg (M 0 1).toNat) i14 (fgX M, ((0 : Int), (-6 : Int))))).2.2)), (1, zI ((zrep (rgX true 1 gLg ((i14 : Nat) : Int)) i28 (zrep (rgO true 1 gLg (M 0 1).toNat) i14 (fgX M, ((0 : Int), (-6 : Int))))).2.1)), (0, zR 27)] [] ((zrep (rgX true 1 gLg ((i14 : Nat) : Int)) i28 (zrep (rgO true 1 gLg (M 0 1).toNat) i14 (fgX M, ((0 : Int), (-6 : Int))))).1)
          refine z_ald (pc := 40) hc 4 rfl dX5_largestIsland_40 ?_
          refine fg_X5_19 (pc := 41) hc rfl rfl dX5_largestIsland_41 ?_
          refine z_ild (pc := 44) hc 1 rfl dX5_largestIsland_44 ?_
          refine z_ilw (pc := 45) hc 0 rfl dX5_largestIsland_45 ?_
          refine kc_X5_77 (pc := 47) hc rfl (zfitX (by decide) rfl rfl) rfl (by decide) (Nat.le_of_ble_eq_true rfl) (ct_X3_isLandAt ((zrep (rgX true 1 gLg ((i14 : Nat) : Int)) i28 (zrep (rgO true 1 gLg (M 0 1).toNat) i14 (fgX M, ((0 : Int), (-6 : Int))))).1) 0 (by omega) (by first | assumption ) ((i14 : Nat) : Int) ((i28 : Nat) : Int) (by omega) (by omega)) dX5_largestIsland_47 ?_
          refine z_beq (pc := 50) (tgt := 107) hc (by decide) dX5_largestIsland_50 (fun h50 => ?_) (fun h50 => ?_)
          · show zJW X 107 [(4, zI ((i28 : Nat) : Int)), (3, zI ((i14 : Nat) : Int)), (2, zI ((zrep (rgX true 1 gLg ((i14 : Nat) : Int)) i28 (zrep (rgO true 1 gLg (M 0 1).toNat) i14 (fgX M, ((0 : Int), (-6 : Int))))).2.2)), (1, zI ((zrep (rgX true 1 gLg ((i14 : Nat) : Int)) i28 (zrep (rgO true 1 gLg (M 0 1).toNat) i14 (fgX M, ((0 : Int), (-6 : Int))))).2.1)), (0, zR 27)] [] ((zrep (rgX true 1 gLg ((i14 : Nat) : Int)) i28 (zrep (rgO true 1 gLg (M 0 1).toNat) i14 (fgX M, ((0 : Int), (-6 : Int))))).1)
            refine z_iinc (pc := 107) (lv' := [(4, zI (((i28 : Nat) : Int) + 1)), (3, zI ((i14 : Nat) : Int)), (2, zI ((zrep (rgX true 1 gLg ((i14 : Nat) : Int)) i28 (zrep (rgO true 1 gLg (M 0 1).toNat) i14 (fgX M, ((0 : Int), (-6 : Int))))).2.2)), (1, zI ((zrep (rgX true 1 gLg ((i14 : Nat) : Int)) i28 (zrep (rgO true 1 gLg (M 0 1).toNat) i14 (fgX M, ((0 : Int), (-6 : Int))))).2.1)), (0, zR 27)]) hc 0 rfl rfl (by decide) dX5_largestIsland_107 ?_
            refine z_goto (pc := 110) (tgt := 28) hc (by decide) dX5_largestIsland_110 ?_
            exact zJW_eq (by rw [zrep_succ]; first | (rw [rgX_n1 h50]; rfl) | (rw [rgX_n2 h63]; rfl) | (rw [rgX_y h50 h63]; simp only [gLg]; rw [if_neg (by omega)]; rfl) | (rw [rgX_y h50 h63]; simp only [gLg]; rw [if_pos (by omega)]; rfl)) rfl (by rw [zrep_succ]; first | (rw [rgX_n1 h50]; done) | (rw [rgX_n2 h63]; done) | (rw [rgX_y h50 h63]; done)) ih28
          · show zJW X 53 [(4, zI ((i28 : Nat) : Int)), (3, zI ((i14 : Nat) : Int)), (2, zI ((zrep (rgX true 1 gLg ((i14 : Nat) : Int)) i28 (zrep (rgO true 1 gLg (M 0 1).toNat) i14 (fgX M, ((0 : Int), (-6 : Int))))).2.2)), (1, zI ((zrep (rgX true 1 gLg ((i14 : Nat) : Int)) i28 (zrep (rgO true 1 gLg (M 0 1).toNat) i14 (fgX M, ((0 : Int), (-6 : Int))))).2.1)), (0, zR 27)] [] ((zrep (rgX true 1 gLg ((i14 : Nat) : Int)) i28 (zrep (rgO true 1 gLg (M 0 1).toNat) i14 (fgX M, ((0 : Int), (-6 : Int))))).1)
            refine z_ald (pc := 53) hc 4 rfl dX5_largestIsland_53 ?_
            refine fg_X5_43 (pc := 54) hc rfl rfl dX5_largestIsland_54 ?_
            refine z_ild (pc := 57) hc 1 rfl dX5_largestIsland_57 ?_
            refine z_ilw (pc := 58) hc 0 rfl dX5_largestIsland_58 ?_
            refine kc_X5_102 (pc := 60) hc rfl (zfitX (by decide) rfl rfl) rfl (Nat.le_of_ble_eq_true rfl) (ct_X2_hasReached ((zrep (rgX true 1 gLg ((i14 : Nat) : Int)) i28 (zrep (rgO true 1 gLg (M 0 1).toNat) i14 (fgX M, ((0 : Int), (-6 : Int))))).1) ((i14 : Nat) : Int) ((i28 : Nat) : Int) (by omega) (by omega) (by first | assumption | omega)) dX5_largestIsland_60 ?_
            refine z_bne (pc := 63) (tgt := 107) hc (by decide) dX5_largestIsland_63 (fun h63 => ?_) (fun h63 => ?_)
            · show zJW X 107 [(4, zI ((i28 : Nat) : Int)), (3, zI ((i14 : Nat) : Int)), (2, zI ((zrep (rgX true 1 gLg ((i14 : Nat) : Int)) i28 (zrep (rgO true 1 gLg (M 0 1).toNat) i14 (fgX M, ((0 : Int), (-6 : Int))))).2.2)), (1, zI ((zrep (rgX true 1 gLg ((i14 : Nat) : Int)) i28 (zrep (rgO true 1 gLg (M 0 1).toNat) i14 (fgX M, ((0 : Int), (-6 : Int))))).2.1)), (0, zR 27)] [] ((zrep (rgX true 1 gLg ((i14 : Nat) : Int)) i28 (zrep (rgO true 1 gLg (M 0 1).toNat) i14 (fgX M, ((0 : Int), (-6 : Int))))).1)
              refine z_iinc (pc := 107) (lv' := [(4, zI (((i28 : Nat) : Int) + 1)), (3, zI ((i14 : Nat) : Int)), (2, zI ((zrep (rgX true 1 gLg ((i14 : Nat) : Int)) i28 (zrep (rgO true 1 gLg (M 0 1).toNat) i14 (fgX M, ((0 : Int), (-6 : Int))))).2.2)), (1, zI ((zrep (rgX true 1 gLg ((i14 : Nat) : Int)) i28 (zrep (rgO true 1 gLg (M 0 1).toNat) i14 (fgX M, ((0 : Int), (-6 : Int))))).2.1)), (0, zR 27)]) hc 0 rfl rfl (by decide) dX5_largestIsland_107 ?_
              refine z_goto (pc := 110) (tgt := 28) hc (by decide) dX5_largestIsland_110 ?_
              exact zJW_eq (by rw [zrep_succ]; first | (rw [rgX_n1 h50]; rfl) | (rw [rgX_n2 h63]; rfl) | (rw [rgX_y h50 h63]; simp only [gLg]; rw [if_neg (by omega)]; rfl) | (rw [rgX_y h50 h63]; simp only [gLg]; rw [if_pos (by omega)]; rfl)) rfl (by rw [zrep_succ]; first | (rw [rgX_n1 h50]; done) | (rw [rgX_n2 h63]; done) | (rw [rgX_y h50 h63]; done)) ih28
            · show zJW X 66 [(4, zI ((i28 : Nat) : Int)), (3, zI ((i14 : Nat) : Int)), (2, zI ((zrep (rgX true 1 gLg ((i14 : Nat) : Int)) i28 (zrep (rgO true 1 gLg (M 0 1).toNat) i14 (fgX M, ((0 : Int), (-6 : Int))))).2.2)), (1, zI ((zrep (rgX true 1 gLg ((i14 : Nat) : Int)) i28 (zrep (rgO true 1 gLg (M 0 1).toNat) i14 (fgX M, ((0 : Int), (-6 : Int))))).2.1)), (0, zR 27)] [] ((zrep (rgX true 1 gLg ((i14 : Nat) : Int)) i28 (zrep (rgO true 1 gLg (M 0 1).toNat) i14 (fgX M, ((0 : Int), (-6 : Int))))).1)
              have h63 := Decidable.not_not.mp (of_decide_eq_false h63)
              refine z_ald (pc := 66) hc 4 rfl dX5_largestIsland_66 ?_
              refine fg_X5_43 (pc := 67) hc rfl rfl dX5_largestIsland_67 ?_
              refine z_ald (pc := 70) hc 4 rfl dX5_largestIsland_70 ?_
              refine fg_X5_19 (pc := 71) hc rfl rfl dX5_largestIsland_71 ?_
              refine z_ild (pc := 74) hc 1 rfl dX5_largestIsland_74 ?_
              refine z_ilw (pc := 75) hc 0 rfl dX5_largestIsland_75 ?_
              refine z_iconst (pc := 77) hc 1 dX5_largestIsland_77 ?_
              refine kc_X5_91 (pc := 78) hc rfl (zfitX (by decide) rfl rfl) rfl (Nat.le_of_ble_eq_true rfl) (ct_X2_ovr1 ((zrep (rgX true 1 gLg ((i14 : Nat) : Int)) i28 (zrep (rgO true 1 gLg (M 0 1).toNat) i14 (fgX M, ((0 : Int), (-6 : Int))))).1) (by assumption) (by assumption) ((i14 : Nat) : Int) ((i28 : Nat) : Int) (by assumption)) dX5_largestIsland_78 ?_
              rw [h50]
              have hg := (ovX_rg (e := 1) hi.1 h50).2
              obtain ⟨hg1, hg2, hg3⟩ := hg
              refine z_ald (pc := 81) hc 4 rfl dX5_largestIsland_81 ?_
              refine fg_X5_43 (pc := 82) hc rfl rfl dX5_largestIsland_82 ?_
              refine fg_X5_105 (pc := 85) hc rfl rfl dX5_largestIsland_85 ?_
              refine z_ild (pc := 88) hc 3 rfl dX5_largestIsland_88 ?_
              refine z_cle (pc := 89) (tgt := 107) hc (by omega) (by decide) dX5_largestIsland_89 (fun h89 => ?_) (fun h89 => ?_)
              · show zJW X 107 [(4, zI ((i28 : Nat) : Int)), (3, zI ((i14 : Nat) : Int)), (2, zI ((zrep (rgX true 1 gLg ((i14 : Nat) : Int)) i28 (zrep (rgO true 1 gLg (M 0 1).toNat) i14 (fgX M, ((0 : Int), (-6 : Int))))).2.2)), (1, zI ((zrep (rgX true 1 gLg ((i14 : Nat) : Int)) i28 (zrep (rgO true 1 gLg (M 0 1).toNat) i14 (fgX M, ((0 : Int), (-6 : Int))))).2.1)), (0, zR 27)] [] (ovX (zrep (rgX true 1 gLg ((i14 : Nat) : Int)) i28 (zrep (rgO true 1 gLg (M 0 1).toNat) i14 (fgX M, ((0 : Int), (-6 : Int))))).1 true ((i14 : Nat) : Int) ((i28 : Nat) : Int) 1 144)
                refine z_iinc (pc := 107) (lv' := [(4, zI (((i28 : Nat) : Int) + 1)), (3, zI ((i14 : Nat) : Int)), (2, zI ((zrep (rgX true 1 gLg ((i14 : Nat) : Int)) i28 (zrep (rgO true 1 gLg (M 0 1).toNat) i14 (fgX M, ((0 : Int), (-6 : Int))))).2.2)), (1, zI ((zrep (rgX true 1 gLg ((i14 : Nat) : Int)) i28 (zrep (rgO true 1 gLg (M 0 1).toNat) i14 (fgX M, ((0 : Int), (-6 : Int))))).2.1)), (0, zR 27)]) hc 0 rfl rfl (by decide) dX5_largestIsland_107 ?_
                refine z_goto (pc := 110) (tgt := 28) hc (by decide) dX5_largestIsland_110 ?_
                exact zJW_eq (by rw [zrep_succ]; first | (rw [rgX_n1 h50]; rfl) | (rw [rgX_n2 h63]; rfl) | (rw [rgX_y h50 h63]; simp only [gLg]; rw [if_neg (by omega)]; rfl) | (rw [rgX_y h50 h63]; simp only [gLg]; rw [if_pos (by omega)]; rfl)) rfl (by rw [zrep_succ]; first | (rw [rgX_n1 h50]; done) | (rw [rgX_n2 h63]; done) | (rw [rgX_y h50 h63]; done)) ih28
              · show zJW X 92 [(4, zI ((i28 : Nat) : Int)), (3, zI ((i14 : Nat) : Int)), (2, zI ((zrep (rgX true 1 gLg ((i14 : Nat) : Int)) i28 (zrep (rgO true 1 gLg (M 0 1).toNat) i14 (fgX M, ((0 : Int), (-6 : Int))))).2.2)), (1, zI ((zrep (rgX true 1 gLg ((i14 : Nat) : Int)) i28 (zrep (rgO true 1 gLg (M 0 1).toNat) i14 (fgX M, ((0 : Int), (-6 : Int))))).2.1)), (0, zR 27)] [] (ovX (zrep (rgX true 1 gLg ((i14 : Nat) : Int)) i28 (zrep (rgO true 1 gLg (M 0 1).toNat) i14 (fgX M, ((0 : Int), (-6 : Int))))).1 true ((i14 : Nat) : Int) ((i28 : Nat) : Int) 1 144)
                refine z_ald (pc := 92) hc 4 rfl dX5_largestIsland_92 ?_
                refine fg_X5_43 (pc := 93) hc rfl rfl dX5_largestIsland_93 ?_
                refine fg_X5_105 (pc := 96) hc rfl rfl dX5_largestIsland_96 ?_
                refine z_ist (pc := 99) (lv' := [(1, zI ((ovX (zrep (rgX true 1 gLg ((i14 : Nat) : Int)) i28 (zrep (rgO true 1 gLg (M 0 1).toNat) i14 (fgX M, ((0 : Int), (-6 : Int))))).1 true ((i14 : Nat) : Int) ((i28 : Nat) : Int) 1 144) 33 2)), (4, zI ((i28 : Nat) : Int)), (3, zI ((i14 : Nat) : Int)), (2, zI ((zrep (rgX true 1 gLg ((i14 : Nat) : Int)) i28 (zrep (rgO true 1 gLg (M 0 1).toNat) i14 (fgX M, ((0 : Int), (-6 : Int))))).2.2)), (0, zR 27)]) hc rfl (by decide) dX5_largestIsland_99 ?_
                refine z_ild (pc := 100) hc 2 rfl dX5_largestIsland_100 ?_
                refine z_ilw (pc := 101) hc 1 rfl dX5_largestIsland_101 ?_
                refine kc_X5_145 (pc := 103) hc rfl (zfit0 (by decide) rfl rfl) (Nat.le_of_ble_eq_true rfl) (ct_X5_position (ovX (zrep (rgX true 1 gLg ((i14 : Nat) : Int)) i28 (zrep (rgO true 1 gLg (M 0 1).toNat) i14 (fgX M, ((0 : Int), (-6 : Int))))).1 true ((i14 : Nat) : Int) ((i28 : Nat) : Int) 1 144) ((i14 : Nat) : Int) ((i28 : Nat) : Int)) dX5_largestIsland_103 ?_
                refine z_ist (pc := 106) (lv' := [(2, zI (100 * ((i14 : Nat) : Int) + ((i28 : Nat) : Int))), (1, zI ((ovX (zrep (rgX true 1 gLg ((i14 : Nat) : Int)) i28 (zrep (rgO true 1 gLg (M 0 1).toNat) i14 (fgX M, ((0 : Int), (-6 : Int))))).1 true ((i14 : Nat) : Int) ((i28 : Nat) : Int) 1 144) 33 2)), (4, zI ((i28 : Nat) : Int)), (3, zI ((i14 : Nat) : Int)), (0, zR 27)]) hc rfl (by decide) dX5_largestIsland_106 ?_
                refine z_iinc (pc := 107) (lv' := [(4, zI (((i28 : Nat) : Int) + 1)), (2, zI (100 * ((i14 : Nat) : Int) + ((i28 : Nat) : Int))), (1, zI ((ovX (zrep (rgX true 1 gLg ((i14 : Nat) : Int)) i28 (zrep (rgO true 1 gLg (M 0 1).toNat) i14 (fgX M, ((0 : Int), (-6 : Int))))).1 true ((i14 : Nat) : Int) ((i28 : Nat) : Int) 1 144) 33 2)), (3, zI ((i14 : Nat) : Int)), (0, zR 27)]) hc 2 rfl rfl (by decide) dX5_largestIsland_107 ?_
                refine z_goto (pc := 110) (tgt := 28) hc (by decide) dX5_largestIsland_110 ?_
                refine zJW_sub (lv' := [(4, zI (((i28 : Nat) : Int) + 1)), (3, zI ((i14 : Nat) : Int)), (2, zI (100 * ((i14 : Nat) : Int) + ((i28 : Nat) : Int))), (1, zI ((ovX (zrep (rgX true 1 gLg ((i14 : Nat) : Int)) i28 (zrep (rgO true 1 gLg (M 0 1).toNat) i14 (fgX M, ((0 : Int), (-6 : Int))))).1 true ((i14 : Nat) : Int) ((i28 : Nat) : Int) 1 144) 33 2)), (0, zR 27)]) [0, 3, 1, 2, 4] rfl ?_
                exact zJW_eq (by rw [zrep_succ]; first | (rw [rgX_n1 h50]; rfl) | (rw [rgX_n2 h63]; rfl) | (rw [rgX_y h50 h63]; simp only [gLg]; rw [if_neg (by omega)]; rfl) | (rw [rgX_y h50 h63]; simp only [gLg]; rw [if_pos (by omega)]; rfl)) rfl (by rw [zrep_succ]; first | (rw [rgX_n1 h50]; done) | (rw [rgX_n2 h63]; done) | (rw [rgX_y h50 h63]; done)) ih28

set_option maxRecDepth 100000 in
set_option maxHeartbeats 4000000 in
theorem ct_X5_fill (M : Mem) (hI : XI M) (r : Int) (hb_r : -2147483648 ≤ r ∧ r < 2147483648) (c : Int) (hb_c : -2147483648 ≤ c ∧ c < 2147483648) (b : Bool)  : zCt yX5_fill KX5_fill [zR 27, zI r, zI c, zI (zbz b)] M (fun zv zM => zv = some (if inT (tsX M 0) r c = true then (if laT (tsX M 0) r c = b then 0 else (zrep (fiO (fgR (recM M) r c 2) b (M 0 1).toNat) (M 0 0).toNat (fgR (recM M) r c 2)) 33 2) else -1) ∧ zM = (if inT (tsX M 0) r c = true then (if laT (tsX M 0) r c = b then (recM M) else (zrep (fiO (fgR (recM M) r c 2) b (M 0 1).toNat) (M 0 0).toNat (fgR (recM M) r c 2))) else M)) := by
  obtain ⟨hT, hSa, hH⟩ := id hI
  have hS := hSa 0 (by decide)
  obtain ⟨hs1, hs2, hs3, hs4, hs5, hs6, hs7⟩ := id hS
  have hI1 := recM_XI hI
  obtain ⟨hT1, hSb, hH1⟩ := id hI1
  have hS1 := hSb 0 (by decide)
  obtain ⟨hr1, hr2, hr3, hr4, hr5, hr6, hr7⟩ := id hS1
  have ht1 := recM_ts hI
  have hm0 : recM M 0 = M 0 := recM_off hH (by decide) (by decide) (by omega)
  have hF := fgX_P hS1
  have hf1 := hF.1
  have hf4 := hF.2.2.2
  have htf : tsX (fgX (recM M)) 0 = tsX (recM M) 0 := tsX_congr (fgX_off (by decide)) (fgX_off (by decide)) (fgX_off (by decide))
  have hPG := fgR_P (r := r) (c := c) (e := 2) hS1
  have hG0 : fgR (recM M) r c 2 0 = M 0 := (hPG.1.2.2.1 0 (by decide) (by decide) (by decide)).trans ((fgX_off (by decide)).trans hm0)
  have hGP : fiP (fgR (recM M) r c 2) (fgR (recM M) r c 2) := ⟨hPG.1.1, fun _ _ _ => rfl⟩
  refine z_met (by decide) rfl (Nat.le_of_ble_eq_true rfl) (fun X hc he => ?_)
  show zJW X 0 [(0, zR 27), (1, zI r), (2, zI c), (3, zI (zbz b))] [] M
  refine z_ald (pc := 0) hc 0 rfl dX5_fill_0 ?_
  refine fg_X5_19 (pc := 1) hc rfl rfl dX5_fill_1 ?_
  refine z_ild (pc := 4) hc 1 rfl dX5_fill_4 ?_
  refine z_ild (pc := 5) hc 2 rfl dX5_fill_5 ?_
  refine kc_X5_73 (pc := 6) hc rfl (zfitX (by decide) rfl rfl) rfl (by decide) (Nat.le_of_ble_eq_true rfl) (ct_X3_has M 0 (by omega) (by first | assumption ) r c (by omega) (by omega)) dX5_fill_6 ?_
  refine z_bne (pc := 9) (tgt := 14) hc (by decide) dX5_fill_9 (fun h9 => ?_) (fun h9 => ?_)
  · show zJW X 14 [(0, zR 27), (1, zI r), (2, zI c), (3, zI (zbz b))] [] M
    have h9' := h9
    rw [inT_X] at h9'
    have h9' := of_decide_eq_true h9'
    have hi : inT (tsX (fgX (recM M)) 0) r c = true := by rw [htf, ht1]; exact h9
    refine z_ald (pc := 14) hc 0 rfl dX5_fill_14 ?_
    refine fg_X5_36 (pc := 15) hc rfl rfl dX5_fill_15 ?_
    refine z_ald (pc := 18) hc 0 rfl dX5_fill_18 ?_
    refine fg_X5_19 (pc := 19) hc rfl rfl dX5_fill_19 ?_
    refine kc_X5_58 (pc := 22) hc rfl (zfitX (by decide) rfl rfl) rfl (Nat.le_of_ble_eq_true rfl) (ct_X0_record M (by assumption) (by assumption) ) dX5_fill_22 ?_
    refine z_ald (pc := 25) hc 0 rfl dX5_fill_25 ?_
    refine fg_X5_19 (pc := 26) hc rfl rfl dX5_fill_26 ?_
    refine z_ild (pc := 29) hc 1 rfl dX5_fill_29 ?_
    refine z_ild (pc := 30) hc 2 rfl dX5_fill_30 ?_
    refine kc_X5_77 (pc := 31) hc rfl (zfitX (by decide) rfl rfl) rfl (by decide) (Nat.le_of_ble_eq_true rfl) (ct_X3_isLandAt (recM M) 0 (by omega) (by first | assumption ) r c (by omega) (by omega)) dX5_fill_31 ?_
    refine z_ild (pc := 34) hc 3 rfl dX5_fill_34 ?_
    refine z_cne (pc := 35) (tgt := 40) hc (by have := zbz_bd b; have := zbz_bd (laT (tsX (recM M) 0) r c); omega) (by decide) dX5_fill_35 (fun h35 => ?_) (fun h35 => ?_)
    · show zJW X 40 [(0, zR 27), (1, zI r), (2, zI c), (3, zI (zbz b))] [] (recM M)
      refine z_ald (pc := 40) hc 0 rfl dX5_fill_40 ?_
      refine fg_X5_43 (pc := 41) hc rfl rfl dX5_fill_41 ?_
      refine kc_X5_88 (pc := 44) hc rfl (zfitX (by decide) rfl rfl) rfl (Nat.le_of_ble_eq_true rfl) (ct_X2_forg (recM M)) dX5_fill_44 ?_
      refine z_ald (pc := 47) hc 0 rfl dX5_fill_47 ?_
      refine fg_X5_43 (pc := 48) hc rfl rfl dX5_fill_48 ?_
      refine z_ald (pc := 51) hc 0 rfl dX5_fill_51 ?_
      refine fg_X5_19 (pc := 52) hc rfl rfl dX5_fill_52 ?_
      refine z_ild (pc := 55) hc 1 rfl dX5_fill_55 ?_
      refine z_ild (pc := 56) hc 2 rfl dX5_fill_56 ?_
      refine z_iconst (pc := 57) hc 2 dX5_fill_57 ?_
      refine kc_X5_91 (pc := 58) hc rfl (zfitX (by decide) rfl rfl) rfl (Nat.le_of_ble_eq_true rfl) (ct_X2_ovr2 (fgX (recM M)) (by assumption) (by assumption) r c (by assumption)) dX5_fill_58 ?_
      rw [htf]
      show zJW X _ _ _ (fgR (recM M) r c 2)
      refine z_iconst (pc := 61) hc 0 dX5_fill_61 ?_
      refine z_isw (pc := 62) (lv' := [(4, zI 0), (0, zR 27), (1, zI r), (2, zI c), (3, zI (zbz b))]) hc rfl (by decide) dX5_fill_62 ?_
      refine z_for ((M 0 0).toNat) (fun i64 => [(4, zI ((i64 : Nat) : Int)), (0, zR 27), (1, zI r), (2, zI c), (3, zI (zbz b))]) (fun i64 => (zrep (fiO (fgR (recM M) r c 2) b (M 0 1).toNat) i64 (fgR (recM M) r c 2))) (by rfl) (by rfl) ?_ (fun i64 hi64 ih64 => ?_)
      · show zJW X 64 [(4, zI ((((M 0 0).toNat) : Nat) : Int)), (0, zR 27), (1, zI r), (2, zI c), (3, zI (zbz b))] [] (zrep (fiO (fgR (recM M) r c 2) b (M 0 1).toNat) ((M 0 0).toNat) (fgR (recM M) r c 2))
        have hx : fiP (fgR (recM M) r c 2) (zrep (fiO (fgR (recM M) r c 2) b (M 0 1).toNat) (M 0 0).toNat (fgR (recM M) r c 2)) := zrep_inv (P := fiP (fgR (recM M) r c 2)) hGP _ (fun _ _ _ hx => fiO_P hx)
        have hxz : (zrep (fiO (fgR (recM M) r c 2) b (M 0 1).toNat) (M 0 0).toNat (fgR (recM M) r c 2)) 0 = M 0 := (hx.2 0 (by decide) (by decide)).trans hG0
        have hxz0 := congrFun hxz 0
        have hxz1 := congrFun hxz 1
        refine z_ilw (pc := 64) hc 0 rfl dX5_fill_64 ?_
        refine z_ald (pc := 66) hc 1 rfl dX5_fill_66 ?_
        refine fg_X5_19 (pc := 67) hc rfl rfl dX5_fill_67 ?_
        refine fg_X5_95 (pc := 70) hc rfl rfl (by decide) dX5_fill_70 ?_
        refine z_cge (pc := 73) (tgt := 130) hc (by omega) (by decide) dX5_fill_73 (fun h73 => ?_) (fun h73 => ?_)
        · show zJW X 130 [(4, zI ((((M 0 0).toNat) : Nat) : Int)), (0, zR 27), (1, zI r), (2, zI c), (3, zI (zbz b))] [] (zrep (fiO (fgR (recM M) r c 2) b (M 0 1).toNat) ((M 0 0).toNat) (fgR (recM M) r c 2))
          refine z_ald (pc := 130) hc 1 rfl dX5_fill_130 ?_
          refine fg_X5_43 (pc := 131) hc rfl rfl dX5_fill_131 ?_
          refine fg_X5_105 (pc := 134) hc rfl rfl dX5_fill_134 ?_
          exact z_iret (pc := 137) hc he rfl dX5_fill_137 (by rw [if_pos h9, if_pos h9, ← ht1, if_neg (zbz_ne.mp h35), if_neg (zbz_ne.mp h35)]; exact ⟨rfl, rfl⟩)
        · exfalso; omega
      · show zJW X 64 [(4, zI ((i64 : Nat) : Int)), (0, zR 27), (1, zI r), (2, zI c), (3, zI (zbz b))] [] (zrep (fiO (fgR (recM M) r c 2) b (M 0 1).toNat) i64 (fgR (recM M) r c 2))
        have ho : fiP (fgR (recM M) r c 2) (zrep (fiO (fgR (recM M) r c 2) b (M 0 1).toNat) i64 (fgR (recM M) r c 2)) := zrep_inv (P := fiP (fgR (recM M) r c 2)) hGP _ (fun _ _ _ hx => fiO_P hx)
        have hoz : (zrep (fiO (fgR (recM M) r c 2) b (M 0 1).toNat) i64 (fgR (recM M) r c 2)) 0 = M 0 := (ho.2 0 (by decide) (by decide)).trans hG0
        have hoz0 := congrFun hoz 0
        have hoz1 := congrFun hoz 1
        refine z_ilw (pc := 64) hc 0 rfl dX5_fill_64 ?_
        refine z_ald (pc := 66) hc 1 rfl dX5_fill_66 ?_
        refine fg_X5_19 (pc := 67) hc rfl rfl dX5_fill_67 ?_
        refine fg_X5_95 (pc := 70) hc rfl rfl (by decide) dX5_fill_70 ?_
        refine z_cge (pc := 73) (tgt := 130) hc (by omega) (by decide) dX5_fill_73 (fun h73 => ?_) (fun h73 => ?_)
        · exfalso; omega
        · show zJW X 76 [(4, zI ((i64 : Nat) : Int)), (0, zR 27), (1, zI r), (2, zI c), (3, zI (zbz b))] [] (zrep (fiO (fgR (recM M) r c 2) b (M 0 1).toNat) i64 (fgR (recM M) r c 2))
          refine z_iconst (pc := 76) hc 0 dX5_fill_76 ?_
          refine z_isw (pc := 77) (lv' := [(5, zI 0), (4, zI ((i64 : Nat) : Int)), (0, zR 27), (1, zI r), (2, zI c), (3, zI (zbz b))]) hc rfl (by decide) dX5_fill_77 ?_
          refine z_for ((M 0 1).toNat) (fun i79 => [(5, zI ((i79 : Nat) : Int)), (4, zI ((i64 : Nat) : Int)), (0, zR 27), (1, zI r), (2, zI c), (3, zI (zbz b))]) (fun i79 => (zrep (fiI (fgR (recM M) r c 2) b ((i64 : Nat) : Int)) i79 (zrep (fiO (fgR (recM M) r c 2) b (M 0 1).toNat) i64 (fgR (recM M) r c 2)))) (by rfl) (by rfl) ?_ (fun i79 hi79 ih79 => ?_)
          · show zJW X 79 [(5, zI ((((M 0 1).toNat) : Nat) : Int)), (4, zI ((i64 : Nat) : Int)), (0, zR 27), (1, zI r), (2, zI c), (3, zI (zbz b))] [] (zrep (fiI (fgR (recM M) r c 2) b ((i64 : Nat) : Int)) ((M 0 1).toNat) (zrep (fiO (fgR (recM M) r c 2) b (M 0 1).toNat) i64 (fgR (recM M) r c 2)))
            have hy : fiP (fgR (recM M) r c 2) (zrep (fiI (fgR (recM M) r c 2) b ((i64 : Nat) : Int)) (M 0 1).toNat (zrep (fiO (fgR (recM M) r c 2) b (M 0 1).toNat) i64 (fgR (recM M) r c 2))) := zrep_inv (P := fiP (fgR (recM M) r c 2)) ho _ (fun _ _ _ hx => fiI_P hx)
            have hyz : (zrep (fiI (fgR (recM M) r c 2) b ((i64 : Nat) : Int)) (M 0 1).toNat (zrep (fiO (fgR (recM M) r c 2) b (M 0 1).toNat) i64 (fgR (recM M) r c 2))) 0 = M 0 := (hy.2 0 (by decide) (by decide)).trans hG0
            have hyz0 := congrFun hyz 0
            have hyz1 := congrFun hyz 1
            refine z_ilw (pc := 79) hc 0 rfl dX5_fill_79 ?_
            refine z_ald (pc := 81) hc 2 rfl dX5_fill_81 ?_
            refine fg_X5_19 (pc := 82) hc rfl rfl dX5_fill_82 ?_
            refine fg_X5_99 (pc := 85) hc rfl rfl (by decide) dX5_fill_85 ?_
            refine z_cge (pc := 88) (tgt := 124) hc (by omega) (by decide) dX5_fill_88 (fun h88 => ?_) (fun h88 => ?_)
            · show zJW X 124 [(5, zI ((((M 0 1).toNat) : Nat) : Int)), (4, zI ((i64 : Nat) : Int)), (0, zR 27), (1, zI r), (2, zI c), (3, zI (zbz b))] [] (zrep (fiI (fgR (recM M) r c 2) b ((i64 : Nat) : Int)) ((M 0 1).toNat) (zrep (fiO (fgR (recM M) r c 2) b (M 0 1).toNat) i64 (fgR (recM M) r c 2)))
              refine z_iinc (pc := 124) (lv' := [(4, zI (((i64 : Nat) : Int) + 1)), (5, zI ((((M 0 1).toNat) : Nat) : Int)), (0, zR 27), (1, zI r), (2, zI c), (3, zI (zbz b))]) hc 1 rfl rfl (by decide) dX5_fill_124 ?_
              refine z_goto (pc := 127) (tgt := 64) hc (by decide) dX5_fill_127 ?_
              refine zJW_sub (lv' := [(4, zI (((i64 : Nat) : Int) + 1)), (0, zR 27), (1, zI r), (2, zI c), (3, zI (zbz b))]) [0, 2, 3, 4, 5] rfl ?_
              exact zJW_eq (by rfl) rfl (by rfl) ih64
            · exfalso; omega
          · show zJW X 79 [(5, zI ((i79 : Nat) : Int)), (4, zI ((i64 : Nat) : Int)), (0, zR 27), (1, zI r), (2, zI c), (3, zI (zbz b))] [] (zrep (fiI (fgR (recM M) r c 2) b ((i64 : Nat) : Int)) i79 (zrep (fiO (fgR (recM M) r c 2) b (M 0 1).toNat) i64 (fgR (recM M) r c 2)))
            have hi : fiP (fgR (recM M) r c 2) (zrep (fiI (fgR (recM M) r c 2) b ((i64 : Nat) : Int)) i79 (zrep (fiO (fgR (recM M) r c 2) b (M 0 1).toNat) i64 (fgR (recM M) r c 2))) := zrep_inv (P := fiP (fgR (recM M) r c 2)) ho _ (fun _ _ _ hx => fiI_P hx)
            have hiz : (zrep (fiI (fgR (recM M) r c 2) b ((i64 : Nat) : Int)) i79 (zrep (fiO (fgR (recM M) r c 2) b (M 0 1).toNat) i64 (fgR (recM M) r c 2))) 0 = M 0 := (hi.2 0 (by decide) (by decide)).trans hG0
            have hiz0 := congrFun hiz 0
            have hiz1 := congrFun hiz 1
            have hiS := hi.1
            have hcu35 : (zrep (fiI (fgR (recM M) r c 2) b ((i64 : Nat) : Int)) i79 (zrep (fiO (fgR (recM M) r c 2) b (M 0 1).toNat) i64 (fgR (recM M) r c 2))) 35 = (fgR (recM M) r c 2) 35 := hi.2 35 (by decide) (by decide)
            have hiv := hPG.1.2.2.2 (((i64 : Nat) : Int) * 12 + ((i79 : Nat) : Int)) (by omega) (by omega)
            rw [← hcu35] at hiv
            refine z_ilw (pc := 79) hc 0 rfl dX5_fill_79 ?_
            refine z_ald (pc := 81) hc 2 rfl dX5_fill_81 ?_
            refine fg_X5_19 (pc := 82) hc rfl rfl dX5_fill_82 ?_
            refine fg_X5_99 (pc := 85) hc rfl rfl (by decide) dX5_fill_85 ?_
            refine z_cge (pc := 88) (tgt := 124) hc (by omega) (by decide) dX5_fill_88 (fun h88 => ?_) (fun h88 => ?_)
            · exfalso; omega
            · show zJW X 91 [(5, zI ((i79 : Nat) : Int)), (4, zI ((i64 : Nat) : Int)), (0, zR 27), (1, zI r), (2, zI c), (3, zI (zbz b))] [] (zrep (fiI (fgR (recM M) r c 2) b ((i64 : Nat) : Int)) i79 (zrep (fiO (fgR (recM M) r c 2) b (M 0 1).toNat) i64 (fgR (recM M) r c 2)))
              refine z_ald (pc := 91) hc 2 rfl dX5_fill_91 ?_
              refine fg_X5_43 (pc := 92) hc rfl rfl dX5_fill_92 ?_
              refine z_ilw (pc := 95) hc 1 rfl dX5_fill_95 ?_
              refine z_ilw (pc := 97) hc 0 rfl dX5_fill_97 ?_
              refine kc_X5_102 (pc := 99) hc rfl (zfitX (by decide) rfl rfl) rfl (Nat.le_of_ble_eq_true rfl) (ct_X2_hasReached (zrep (fiI (fgR (recM M) r c 2) b ((i64 : Nat) : Int)) i79 (zrep (fiO (fgR (recM M) r c 2) b (M 0 1).toNat) i64 (fgR (recM M) r c 2))) ((i64 : Nat) : Int) ((i79 : Nat) : Int) (by omega) (by omega) (by first | assumption | omega)) dX5_fill_99 ?_
              rw [hcu35]
              refine z_beq (pc := 102) (tgt := 118) hc (by decide) dX5_fill_102 (fun h102 => ?_) (fun h102 => ?_)
              · show zJW X 118 [(5, zI ((i79 : Nat) : Int)), (4, zI ((i64 : Nat) : Int)), (0, zR 27), (1, zI r), (2, zI c), (3, zI (zbz b))] [] (zrep (fiI (fgR (recM M) r c 2) b ((i64 : Nat) : Int)) i79 (zrep (fiO (fgR (recM M) r c 2) b (M 0 1).toNat) i64 (fgR (recM M) r c 2)))
                refine z_iinc (pc := 118) (lv' := [(5, zI (((i79 : Nat) : Int) + 1)), (4, zI ((i64 : Nat) : Int)), (0, zR 27), (1, zI r), (2, zI c), (3, zI (zbz b))]) hc 0 rfl rfl (by decide) dX5_fill_118 ?_
                refine z_goto (pc := 121) (tgt := 79) hc (by decide) dX5_fill_121 ?_
                exact zJW_eq (by rfl) rfl (by rw [zrep_succ]; first | (rw [fiI_y h102]; done) | (rw [fiI_n h102]; done)) ih79
              · show zJW X 105 [(5, zI ((i79 : Nat) : Int)), (4, zI ((i64 : Nat) : Int)), (0, zR 27), (1, zI r), (2, zI c), (3, zI (zbz b))] [] (zrep (fiI (fgR (recM M) r c 2) b ((i64 : Nat) : Int)) i79 (zrep (fiO (fgR (recM M) r c 2) b (M 0 1).toNat) i64 (fgR (recM M) r c 2)))
                refine z_ald (pc := 105) hc 2 rfl dX5_fill_105 ?_
                refine fg_X5_19 (pc := 106) hc rfl rfl dX5_fill_106 ?_
                refine z_ilw (pc := 109) hc 1 rfl dX5_fill_109 ?_
                refine z_ilw (pc := 111) hc 0 rfl dX5_fill_111 ?_
                refine z_ild (pc := 113) hc 5 rfl dX5_fill_113 ?_
                refine kc_X5_84 (pc := 114) hc rfl (zfitX (by decide) rfl rfl) rfl (by decide) (Nat.le_of_ble_eq_true rfl) (ct_X3_putKind (zrep (fiI (fgR (recM M) r c 2) b ((i64 : Nat) : Int)) i79 (zrep (fiO (fgR (recM M) r c 2) b (M 0 1).toNat) i64 (fgR (recM M) r c 2))) 0 (by omega) (by assumption) ((i64 : Nat) : Int) ((i79 : Nat) : Int) (by omega) (by omega) b) dX5_fill_114 ?_
                refine z_pop (pc := 117) hc rfl dX5_fill_117 ?_
                refine z_iinc (pc := 118) (lv' := [(5, zI (((i79 : Nat) : Int) + 1)), (4, zI ((i64 : Nat) : Int)), (0, zR 27), (1, zI r), (2, zI c), (3, zI (zbz b))]) hc 0 rfl rfl (by decide) dX5_fill_118 ?_
                refine z_goto (pc := 121) (tgt := 79) hc (by decide) dX5_fill_121 ?_
                exact zJW_eq (by rfl) rfl (by rw [zrep_succ]; first | (rw [fiI_y h102]; done) | (rw [fiI_n h102]; done)) ih79
    · show zJW X 38 [(0, zR 27), (1, zI r), (2, zI c), (3, zI (zbz b))] [] (recM M)
      refine z_iconst (pc := 38) hc 0 dX5_fill_38 ?_
      exact z_iret (pc := 39) hc he rfl dX5_fill_39 (by rw [if_pos h9, if_pos h9, ← ht1, if_pos (zbz_eq.mp h35), if_pos (zbz_eq.mp h35)]; exact ⟨rfl, rfl⟩)
  · show zJW X 12 [(0, zR 27), (1, zI r), (2, zI c), (3, zI (zbz b))] [] M
    refine z_iconst (pc := 12) hc (-1) dX5_fill_12 ?_
    exact z_iret (pc := 13) hc he rfl dX5_fill_13 (⟨by rw [h9]; rfl, by rw [h9]; rfl⟩)
