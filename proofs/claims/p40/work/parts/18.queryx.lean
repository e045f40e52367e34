set_option maxRecDepth 100000 in
set_option maxHeartbeats 4000000 in
theorem ct_X5_rows (M : Mem) (hS : zSk M 0) (hT : TbX M)   : zCt yX5_rows KX5_rows [zR 27] M (fun zv zM => zv = some (tH (tsX M 0)) ∧ zM = M) := by
  obtain ⟨hs1, hs2, hs3, hs4, hs5, hs6, hs7⟩ := id hS
  refine z_met (by decide) rfl (Nat.le_of_ble_eq_true rfl) (fun X hc he => ?_)
  show zJW X 0 [(0, zR 27)] [] M
  refine z_ald (pc := 0) hc 0 rfl dX5_rows_0 ?_
  refine fg_X5_19 (pc := 1) hc rfl rfl dX5_rows_1 ?_
  refine fg_X5_95 (pc := 4) hc rfl rfl (by decide) dX5_rows_4 ?_
  exact z_iret (pc := 7) hc he rfl dX5_rows_7 (⟨rfl, rfl⟩)

set_option maxRecDepth 100000 in
set_option maxHeartbeats 4000000 in
theorem ct_X5_columns (M : Mem) (hS : zSk M 0) (hT : TbX M)   : zCt yX5_columns KX5_columns [zR 27] M (fun zv zM => zv = some (tW (tsX M 0)) ∧ zM = M) := by
  obtain ⟨hs1, hs2, hs3, hs4, hs5, hs6, hs7⟩ := id hS
  refine z_met (by decide) rfl (Nat.le_of_ble_eq_true rfl) (fun X hc he => ?_)
  show zJW X 0 [(0, zR 27)] [] M
  refine z_ald (pc := 0) hc 0 rfl dX5_columns_0 ?_
  refine fg_X5_19 (pc := 1) hc rfl rfl dX5_columns_1 ?_
  refine fg_X5_99 (pc := 4) hc rfl rfl (by decide) dX5_columns_4 ?_
  exact z_iret (pc := 7) hc he rfl dX5_columns_7 (⟨rfl, rfl⟩)

set_option maxRecDepth 100000 in
set_option maxHeartbeats 4000000 in
theorem ct_X5_tile (M : Mem) (hS : zSk M 0) (hT : TbX M) (r : Int) (hb_r : -2147483648 ≤ r ∧ r < 2147483648) (c : Int) (hb_c : -2147483648 ≤ c ∧ c < 2147483648) (p : Int) (hb_p : -2147483648 ≤ p ∧ p < 2147483648)  : zCt yX5_tile KX5_tile [zR 27, zI r, zI c, zI p] M (fun zv zM => zv = some (tlA (tsX M 0) r c p) ∧ zM = M) := by
  obtain ⟨hs1, hs2, hs3, hs4, hs5, hs6, hs7⟩ := id hS
  refine z_met (by decide) rfl (Nat.le_of_ble_eq_true rfl) (fun X hc he => ?_)
  show zJW X 0 [(0, zR 27), (1, zI r), (2, zI c), (3, zI p)] [] M
  refine z_ald (pc := 0) hc 0 rfl dX5_tile_0 ?_
  refine fg_X5_19 (pc := 1) hc rfl rfl dX5_tile_1 ?_
  refine z_ild (pc := 4) hc 1 rfl dX5_tile_4 ?_
  refine z_ild (pc := 5) hc 2 rfl dX5_tile_5 ?_
  refine kc_X5_73 (pc := 6) hc rfl (zfitX (by decide) rfl rfl) rfl (by decide) (Nat.le_of_ble_eq_true rfl) (ct_X3_has M 0 (by omega) (by first | assumption ) r c (by omega) (by omega)) dX5_tile_6 ?_
  refine z_bne (pc := 9) (tgt := 14) hc (by decide) dX5_tile_9 (fun h9 => ?_) (fun h9 => ?_)
  · show zJW X 14 [(0, zR 27), (1, zI r), (2, zI c), (3, zI p)] [] M
    have h9' := h9
    rw [inT_X] at h9'
    have h9' := of_decide_eq_true h9'
    refine z_ild (pc := 14) hc 3 rfl dX5_tile_14 ?_
    by_cases hsw15 : 0 ≤ p ∧ p ≤ 5
    · rcases (show p = 0 ∨ p = 1 ∨ p = 2 ∨ p = 3 ∨ p = 4 ∨ p = 5 by omega) with hsv15 | hsv15 | hsv15 | hsv15 | hsv15 | hsv15
      · refine z_swIn (pc := 15) (off := 37) (tgt := 52) hc (by omega) hsw15 (by rw [hsv15]; rfl) (by decide) dX5_tile_15 ?_
        show zJW X 52 [(0, zR 27), (1, zI r), (2, zI c), (3, zI p)] [] M
        refine z_ald (pc := 52) hc 0 rfl dX5_tile_52 ?_
        refine fg_X5_19 (pc := 53) hc rfl rfl dX5_tile_53 ?_
        refine z_ild (pc := 56) hc 1 rfl dX5_tile_56 ?_
        refine z_ild (pc := 57) hc 2 rfl dX5_tile_57 ?_
        refine kc_X5_77 (pc := 58) hc rfl (zfitX (by decide) rfl rfl) rfl (by decide) (Nat.le_of_ble_eq_true rfl) (ct_X3_isLandAt M 0 (by omega) (by first | assumption ) r c (by omega) (by omega)) dX5_tile_58 ?_
        refine z_beq (pc := 61) (tgt := 68) hc (by decide) dX5_tile_61 (fun h61 => ?_) (fun h61 => ?_)
        · show zJW X 68 [(0, zR 27), (1, zI r), (2, zI c), (3, zI p)] [] M
          refine z_iconst (pc := 68) hc 0 dX5_tile_68 ?_
          exact z_iret (pc := 69) hc he rfl dX5_tile_69 (by refine ⟨?_, rfl⟩; rw [tlA, if_pos h9, hsv15]; first | rfl | (rw [h61]; rfl) | (rw [h103]; rfl))
        · show zJW X 64 [(0, zR 27), (1, zI r), (2, zI c), (3, zI p)] [] M
          refine z_iconst (pc := 64) hc 1 dX5_tile_64 ?_
          refine z_goto (pc := 65) (tgt := 69) hc (by decide) dX5_tile_65 ?_
          exact z_iret (pc := 69) hc he rfl dX5_tile_69 (by refine ⟨?_, rfl⟩; rw [tlA, if_pos h9, hsv15]; first | rfl | (rw [h61]; rfl) | (rw [h103]; rfl))
      · refine z_swIn (pc := 15) (off := 55) (tgt := 70) hc (by omega) hsw15 (by rw [hsv15]; rfl) (by decide) dX5_tile_15 ?_
        show zJW X 70 [(0, zR 27), (1, zI r), (2, zI c), (3, zI p)] [] M
        refine z_ald (pc := 70) hc 0 rfl dX5_tile_70 ?_
        refine fg_X5_19 (pc := 71) hc rfl rfl dX5_tile_71 ?_
        refine z_ild (pc := 74) hc 1 rfl dX5_tile_74 ?_
        refine z_ild (pc := 75) hc 2 rfl dX5_tile_75 ?_
        refine kc_X5_111 (pc := 76) hc rfl (zfitX (by decide) rfl rfl) rfl (by decide) (Nat.le_of_ble_eq_true rfl) (ct_X3_surroundingsOf M 0 (by omega) (by assumption) r c (by omega) (by omega)) dX5_tile_76 ?_
        exact z_iret (pc := 79) hc he rfl dX5_tile_79 (by refine ⟨?_, rfl⟩; rw [tlA, if_pos h9, hsv15]; first | rfl | (rw [h61]; rfl) | (rw [h103]; rfl))
      · refine z_swIn (pc := 15) (off := 65) (tgt := 80) hc (by omega) hsw15 (by rw [hsv15]; rfl) (by decide) dX5_tile_15 ?_
        show zJW X 80 [(0, zR 27), (1, zI r), (2, zI c), (3, zI p)] [] M
        refine z_ald (pc := 80) hc 0 rfl dX5_tile_80 ?_
        refine z_ild (pc := 81) hc 1 rfl dX5_tile_81 ?_
        refine z_ild (pc := 82) hc 2 rfl dX5_tile_82 ?_
        refine kc_X5_123 (pc := 83) hc rfl (zfitX (by decide) rfl rfl) rfl (Nat.le_of_ble_eq_true rfl) (ct_X5_rightShapeAt M (by assumption) (by assumption) r c (by omega) (by omega)) dX5_tile_83 ?_
        exact z_iret (pc := 86) hc he rfl dX5_tile_86 (by refine ⟨?_, rfl⟩; rw [tlA, if_pos h9, hsv15]; first | rfl | (rw [h61]; rfl) | (rw [h103]; rfl))
      · refine z_swIn (pc := 15) (off := 72) (tgt := 87) hc (by omega) hsw15 (by rw [hsv15]; rfl) (by decide) dX5_tile_15 ?_
        show zJW X 87 [(0, zR 27), (1, zI r), (2, zI c), (3, zI p)] [] M
        refine z_ald (pc := 87) hc 0 rfl dX5_tile_87 ?_
        refine z_ild (pc := 88) hc 1 rfl dX5_tile_88 ?_
        refine z_ild (pc := 89) hc 2 rfl dX5_tile_89 ?_
        refine kc_X5_126 (pc := 90) hc rfl (zfitX (by decide) rfl rfl) rfl (Nat.le_of_ble_eq_true rfl) (ct_X5_shapeAt M (by assumption) (by assumption) r c (by omega) (by omega)) dX5_tile_90 ?_
        exact z_iret (pc := 93) hc he rfl dX5_tile_93 (by refine ⟨?_, rfl⟩; rw [tlA, if_pos h9, hsv15]; first | rfl | (rw [h61]; rfl) | (rw [h103]; rfl))
      · refine z_swIn (pc := 15) (off := 79) (tgt := 94) hc (by omega) hsw15 (by rw [hsv15]; rfl) (by decide) dX5_tile_15 ?_
        show zJW X 94 [(0, zR 27), (1, zI r), (2, zI c), (3, zI p)] [] M
        refine z_ald (pc := 94) hc 0 rfl dX5_tile_94 ?_
        refine fg_X5_19 (pc := 95) hc rfl rfl dX5_tile_95 ?_
        refine z_ild (pc := 98) hc 1 rfl dX5_tile_98 ?_
        refine z_ild (pc := 99) hc 2 rfl dX5_tile_99 ?_
        refine kc_X5_129 (pc := 100) hc rfl (zfitX (by decide) rfl rfl) rfl (by decide) (Nat.le_of_ble_eq_true rfl) (ct_X3_isPinnedAt M 0 (by omega) (by first | assumption ) r c (by omega) (by omega)) dX5_tile_100 ?_
        refine z_beq (pc := 103) (tgt := 110) hc (by decide) dX5_tile_103 (fun h103 => ?_) (fun h103 => ?_)
        · show zJW X 110 [(0, zR 27), (1, zI r), (2, zI c), (3, zI p)] [] M
          refine z_iconst (pc := 110) hc 0 dX5_tile_110 ?_
          exact z_iret (pc := 111) hc he rfl dX5_tile_111 (by refine ⟨?_, rfl⟩; rw [tlA, if_pos h9, hsv15]; first | rfl | (rw [h61]; rfl) | (rw [h103]; rfl))
        · show zJW X 106 [(0, zR 27), (1, zI r), (2, zI c), (3, zI p)] [] M
          refine z_iconst (pc := 106) hc 1 dX5_tile_106 ?_
          refine z_goto (pc := 107) (tgt := 111) hc (by decide) dX5_tile_107 ?_
          exact z_iret (pc := 111) hc he rfl dX5_tile_111 (by refine ⟨?_, rfl⟩; rw [tlA, if_pos h9, hsv15]; first | rfl | (rw [h61]; rfl) | (rw [h103]; rfl))
      · refine z_swIn (pc := 15) (off := 97) (tgt := 112) hc (by omega) hsw15 (by rw [hsv15]; rfl) (by decide) dX5_tile_15 ?_
        show zJW X 112 [(0, zR 27), (1, zI r), (2, zI c), (3, zI p)] [] M
        refine z_ald (pc := 112) hc 0 rfl dX5_tile_112 ?_
        refine z_ild (pc := 113) hc 1 rfl dX5_tile_113 ?_
        refine z_ild (pc := 114) hc 2 rfl dX5_tile_114 ?_
        refine kc_X5_132 (pc := 115) hc rfl (zfitX (by decide) rfl rfl) rfl (Nat.le_of_ble_eq_true rfl) (ct_X5_faultsAt M (by assumption) (by assumption) r c (by omega) (by omega)) dX5_tile_115 ?_
        exact z_iret (pc := 118) hc he rfl dX5_tile_118 (by refine ⟨?_, rfl⟩; rw [tlA, if_pos h9, hsv15]; first | rfl | (rw [h61]; rfl) | (rw [h103]; rfl))
    · refine z_swOut (pc := 15) (tgt := 119) hc (by omega) (by omega) (by decide) dX5_tile_15 ?_
      show zJW X 119 [(0, zR 27), (1, zI r), (2, zI c), (3, zI p)] [] M
      refine z_bipush (pc := 119) hc (-2) (by decide) dX5_tile_119 ?_
      exact z_iret (pc := 121) hc he rfl dX5_tile_121 (by refine ⟨?_, rfl⟩; rw [tlA, if_pos h9, if_neg (by omega), if_neg (by omega), if_neg (by omega), if_neg (by omega), if_neg (by omega), if_neg (by omega)])
  · show zJW X 12 [(0, zR 27), (1, zI r), (2, zI c), (3, zI p)] [] M
    refine z_iconst (pc := 12) hc (-1) dX5_tile_12 ?_
    exact z_iret (pc := 13) hc he rfl dX5_tile_13 (by refine ⟨?_, rfl⟩; rw [tlA, h9]; rfl)

set_option maxRecDepth 100000 in
set_option maxHeartbeats 4000000 in
theorem ct_X5_faults (M : Mem) (hS : zSk M 0) (hT : TbX M)   : zCt yX5_faults KX5_faults [zR 27] M (fun zv zM => zv = some (ftA (tsX M 0)) ∧ zM = M) := by
  obtain ⟨hs1, hs2, hs3, hs4, hs5, hs6, hs7⟩ := id hS
  refine z_met (by decide) rfl (Nat.le_of_ble_eq_true rfl) (fun X hc he => ?_)
  show zJW X 0 [(0, zR 27)] [] M
  refine z_iconst (pc := 0) hc 0 dX5_faults_0 ?_
  refine z_ist (pc := 1) (lv' := [(1, zI 0), (0, zR 27)]) hc rfl (by decide) dX5_faults_1 ?_
  refine z_iconst (pc := 2) hc 0 dX5_faults_2 ?_
  refine z_ist (pc := 3) (lv' := [(2, zI 0), (1, zI 0), (0, zR 27)]) hc rfl (by decide) dX5_faults_3 ?_
  refine z_for ((M 0 0).toNat) (fun i4 => [(2, zI ((i4 : Nat) : Int)), (1, zI (zrep (fun (r : Nat) (x : Int) => zrep (fun (c : Nat) (y : Int) => y + faT (tsX M 0) r c) (tW (tsX M 0)).toNat x) i4 0)), (0, zR 27)]) (fun i4 => M) (by rfl) (by rfl) ?_ (fun i4 hi4 ih4 => ?_)
  · show zJW X 4 [(2, zI ((((M 0 0).toNat) : Nat) : Int)), (1, zI (zrep (fun (r : Nat) (x : Int) => zrep (fun (c : Nat) (y : Int) => y + faT (tsX M 0) r c) (tW (tsX M 0)).toNat x) ((M 0 0).toNat) 0)), (0, zR 27)] [] M
    refine z_ild (pc := 4) hc 0 rfl dX5_faults_4 ?_
    refine z_ald (pc := 5) hc 2 rfl dX5_faults_5 ?_
    refine fg_X5_19 (pc := 6) hc rfl rfl dX5_faults_6 ?_
    refine fg_X5_95 (pc := 9) hc rfl rfl (by decide) dX5_faults_9 ?_
    refine z_cge (pc := 12) (tgt := 49) hc (by omega) (by decide) dX5_faults_12 (fun h12 => ?_) (fun h12 => ?_)
    · show zJW X 49 [(2, zI ((((M 0 0).toNat) : Nat) : Int)), (1, zI (zrep (fun (r : Nat) (x : Int) => zrep (fun (c : Nat) (y : Int) => y + faT (tsX M 0) r c) (tW (tsX M 0)).toNat x) ((M 0 0).toNat) 0)), (0, zR 27)] [] M
      refine z_ild (pc := 49) hc 1 rfl dX5_faults_49 ?_
      exact z_iret (pc := 50) hc he rfl dX5_faults_50 (⟨rfl, rfl⟩)
    · exfalso; omega
  · show zJW X 4 [(2, zI ((i4 : Nat) : Int)), (1, zI (zrep (fun (r : Nat) (x : Int) => zrep (fun (c : Nat) (y : Int) => y + faT (tsX M 0) r c) (tW (tsX M 0)).toNat x) i4 0)), (0, zR 27)] [] M
    refine z_ild (pc := 4) hc 0 rfl dX5_faults_4 ?_
    refine z_ald (pc := 5) hc 2 rfl dX5_faults_5 ?_
    refine fg_X5_19 (pc := 6) hc rfl rfl dX5_faults_6 ?_
    refine fg_X5_95 (pc := 9) hc rfl rfl (by decide) dX5_faults_9 ?_
    refine z_cge (pc := 12) (tgt := 49) hc (by omega) (by decide) dX5_faults_12 (fun h12 => ?_) (fun h12 => ?_)
    · exfalso; omega
    · show zJW X 15 [(2, zI ((i4 : Nat) : Int)), (1, zI (zrep (fun (r : Nat) (x : Int) => zrep (fun (c : Nat) (y : Int) => y + faT (tsX M 0) r c) (tW (tsX M 0)).toNat x) i4 0)), (0, zR 27)] [] M
      refine z_iconst (pc := 15) hc 0 dX5_faults_15 ?_
      refine z_ist (pc := 16) (lv' := [(3, zI 0), (2, zI ((i4 : Nat) : Int)), (1, zI (zrep (fun (r : Nat) (x : Int) => zrep (fun (c : Nat) (y : Int) => y + faT (tsX M 0) r c) (tW (tsX M 0)).toNat x) i4 0)), (0, zR 27)]) hc rfl (by decide) dX5_faults_16 ?_
      refine z_for ((M 0 1).toNat) (fun i17 => [(3, zI ((i17 : Nat) : Int)), (2, zI ((i4 : Nat) : Int)), (1, zI (zrep (fun (c : Nat) (y : Int) => y + faT (tsX M 0) i4 c) i17 (zrep (fun (r : Nat) (x : Int) => zrep (fun (c : Nat) (y : Int) => y + faT (tsX M 0) r c) (tW (tsX M 0)).toNat x) i4 0))), (0, zR 27)]) (fun i17 => M) (by rfl) (by rfl) ?_ (fun i17 hi17 ih17 => ?_)
      · show zJW X 17 [(3, zI ((((M 0 1).toNat) : Nat) : Int)), (2, zI ((i4 : Nat) : Int)), (1, zI (zrep (fun (c : Nat) (y : Int) => y + faT (tsX M 0) i4 c) ((M 0 1).toNat) (zrep (fun (r : Nat) (x : Int) => zrep (fun (c : Nat) (y : Int) => y + faT (tsX M 0) r c) (tW (tsX M 0)).toNat x) i4 0))), (0, zR 27)] [] M
        refine z_ild (pc := 17) hc 0 rfl dX5_faults_17 ?_
        refine z_ald (pc := 18) hc 3 rfl dX5_faults_18 ?_
        refine fg_X5_19 (pc := 19) hc rfl rfl dX5_faults_19 ?_
        refine fg_X5_99 (pc := 22) hc rfl rfl (by decide) dX5_faults_22 ?_
        refine z_cge (pc := 25) (tgt := 43) hc (by omega) (by decide) dX5_faults_25 (fun h25 => ?_) (fun h25 => ?_)
        · show zJW X 43 [(3, zI ((((M 0 1).toNat) : Nat) : Int)), (2, zI ((i4 : Nat) : Int)), (1, zI (zrep (fun (c : Nat) (y : Int) => y + faT (tsX M 0) i4 c) ((M 0 1).toNat) (zrep (fun (r : Nat) (x : Int) => zrep (fun (c : Nat) (y : Int) => y + faT (tsX M 0) r c) (tW (tsX M 0)).toNat x) i4 0))), (0, zR 27)] [] M
          refine z_iinc (pc := 43) (lv' := [(2, zI (((i4 : Nat) : Int) + 1)), (3, zI ((((M 0 1).toNat) : Nat) : Int)), (1, zI (zrep (fun (c : Nat) (y : Int) => y + faT (tsX M 0) i4 c) ((M 0 1).toNat) (zrep (fun (r : Nat) (x : Int) => zrep (fun (c : Nat) (y : Int) => y + faT (tsX M 0) r c) (tW (tsX M 0)).toNat x) i4 0))), (0, zR 27)]) hc 1 rfl rfl (by decide) dX5_faults_43 ?_
          refine z_goto (pc := 46) (tgt := 4) hc (by decide) dX5_faults_46 ?_
          refine zJW_sub (lv' := [(2, zI (((i4 : Nat) : Int) + 1)), (1, zI (zrep (fun (c : Nat) (y : Int) => y + faT (tsX M 0) i4 c) ((M 0 1).toNat) (zrep (fun (r : Nat) (x : Int) => zrep (fun (c : Nat) (y : Int) => y + faT (tsX M 0) r c) (tW (tsX M 0)).toNat x) i4 0))), (0, zR 27)]) [0, 2, 3] rfl ?_
          exact zJW_eq (by rfl) rfl (by rfl) ih4
        · exfalso; omega
      · show zJW X 17 [(3, zI ((i17 : Nat) : Int)), (2, zI ((i4 : Nat) : Int)), (1, zI (zrep (fun (c : Nat) (y : Int) => y + faT (tsX M 0) i4 c) i17 (zrep (fun (r : Nat) (x : Int) => zrep (fun (c : Nat) (y : Int) => y + faT (tsX M 0) r c) (tW (tsX M 0)).toNat x) i4 0))), (0, zR 27)] [] M
        refine z_ild (pc := 17) hc 0 rfl dX5_faults_17 ?_
        refine z_ald (pc := 18) hc 3 rfl dX5_faults_18 ?_
        refine fg_X5_19 (pc := 19) hc rfl rfl dX5_faults_19 ?_
        refine fg_X5_99 (pc := 22) hc rfl rfl (by decide) dX5_faults_22 ?_
        refine z_cge (pc := 25) (tgt := 43) hc (by omega) (by decide) dX5_faults_25 (fun h25 => ?_) (fun h25 => ?_)
        · exfalso; omega
        · show zJW X 28 [(3, zI ((i17 : Nat) : Int)), (2, zI ((i4 : Nat) : Int)), (1, zI (zrep (fun (c : Nat) (y : Int) => y + faT (tsX M 0) i4 c) i17 (zrep (fun (r : Nat) (x : Int) => zrep (fun (c : Nat) (y : Int) => y + faT (tsX M 0) r c) (tW (tsX M 0)).toNat x) i4 0))), (0, zR 27)] [] M
          refine z_ild (pc := 28) hc 2 rfl dX5_faults_28 ?_
          refine z_ald (pc := 29) hc 3 rfl dX5_faults_29 ?_
          refine z_ild (pc := 30) hc 1 rfl dX5_faults_30 ?_
          refine z_ild (pc := 31) hc 0 rfl dX5_faults_31 ?_
          refine kc_X5_132 (pc := 32) hc rfl (zfitX (by decide) rfl rfl) rfl (Nat.le_of_ble_eq_true rfl) (ct_X5_faultsAt M (by assumption) (by assumption) ((i4 : Nat) : Int) ((i17 : Nat) : Int) (by omega) (by omega)) dX5_faults_32 ?_
          refine z_iadd (pc := 35) hc dX5_faults_35 ?_
          refine z_ist (pc := 36) (lv' := [(1, zI (zrep (fun (c : Nat) (y : Int) => y + faT (tsX M 0) i4 c) i17 (zrep (fun (r : Nat) (x : Int) => zrep (fun (c : Nat) (y : Int) => y + faT (tsX M 0) r c) (tW (tsX M 0)).toNat x) i4 0) + faT (tsX M 0) ((i4 : Nat) : Int) ((i17 : Nat) : Int))), (3, zI ((i17 : Nat) : Int)), (2, zI ((i4 : Nat) : Int)), (0, zR 27)]) hc rfl (by decide) dX5_faults_36 ?_
          refine z_iinc (pc := 37) (lv' := [(3, zI (((i17 : Nat) : Int) + 1)), (1, zI (zrep (fun (c : Nat) (y : Int) => y + faT (tsX M 0) i4 c) i17 (zrep (fun (r : Nat) (x : Int) => zrep (fun (c : Nat) (y : Int) => y + faT (tsX M 0) r c) (tW (tsX M 0)).toNat x) i4 0) + faT (tsX M 0) ((i4 : Nat) : Int) ((i17 : Nat) : Int))), (2, zI ((i4 : Nat) : Int)), (0, zR 27)]) hc 1 rfl rfl (by decide) dX5_faults_37 ?_
          refine z_goto (pc := 40) (tgt := 17) hc (by decide) dX5_faults_40 ?_
          refine zJW_sub (lv' := [(3, zI (((i17 : Nat) : Int) + 1)), (2, zI ((i4 : Nat) : Int)), (1, zI (zrep (fun (c : Nat) (y : Int) => y + faT (tsX M 0) i4 c) i17 (zrep (fun (r : Nat) (x : Int) => zrep (fun (c : Nat) (y : Int) => y + faT (tsX M 0) r c) (tW (tsX M 0)).toNat x) i4 0) + faT (tsX M 0) ((i4 : Nat) : Int) ((i17 : Nat) : Int))), (0, zR 27)]) [0, 2, 1, 3] rfl ?_
          exact zJW_eq (by rfl) rfl (by rfl) ih17

set_option maxRecDepth 100000 in
set_option maxHeartbeats 4000000 in
theorem ct_X5_firstFault (M : Mem) (hS : zSk M 0) (hT : TbX M)   : zCt yX5_firstFault KX5_firstFault [zR 27] M (fun zv zM => zv = some (ffA (tsX M 0)) ∧ zM = M) := by
  obtain ⟨hs1, hs2, hs3, hs4, hs5, hs6, hs7⟩ := id hS
  refine z_met (by decide) rfl (Nat.le_of_ble_eq_true rfl) (fun X hc he => ?_)
  show zJW X 0 [(0, zR 27)] [] M
  refine z_iconst (pc := 0) hc 0 dX5_firstFault_0 ?_
  refine z_ist (pc := 1) (lv' := [(1, zI 0), (0, zR 27)]) hc rfl (by decide) dX5_firstFault_1 ?_
  refine z_forI ((M 0 0).toNat) (fun i2 => [(1, zI ((i2 : Nat) : Int)), (0, zR 27)]) (fun i2 => M) (fun i2 => zrep (fun (r : Nat) (x : Int) => zrep (fun (c : Nat) (x : Int) => if x ≠ -6 then x else if decide (0 < faT (tsX M 0) r c) = true then 100 * (r : Int) + c else -6) (tW (tsX M 0)).toNat x) i2 (-6) = -6) (by rfl) (by rfl) (by rfl) (fun hv2 => ?_) (fun i2 hi2 hv2 ih2 => ?_)
  · show zJW X 2 [(1, zI ((((M 0 0).toNat) : Nat) : Int)), (0, zR 27)] [] M
    refine z_ild (pc := 2) hc 0 rfl dX5_firstFault_2 ?_
    refine z_ald (pc := 3) hc 1 rfl dX5_firstFault_3 ?_
    refine fg_X5_19 (pc := 4) hc rfl rfl dX5_firstFault_4 ?_
    refine fg_X5_95 (pc := 7) hc rfl rfl (by decide) dX5_firstFault_7 ?_
    refine z_cge (pc := 10) (tgt := 53) hc (by omega) (by decide) dX5_firstFault_10 (fun h10 => ?_) (fun h10 => ?_)
    · show zJW X 53 [(1, zI ((((M 0 0).toNat) : Nat) : Int)), (0, zR 27)] [] M
      refine z_bipush (pc := 53) hc (-6) (by decide) dX5_firstFault_53 ?_
      exact z_iret (pc := 55) hc he rfl dX5_firstFault_55 (⟨congrArg some hv2.symm, rfl⟩)
    · exfalso; omega
  · show zJW X 2 [(1, zI ((i2 : Nat) : Int)), (0, zR 27)] [] M
    refine z_ild (pc := 2) hc 0 rfl dX5_firstFault_2 ?_
    refine z_ald (pc := 3) hc 1 rfl dX5_firstFault_3 ?_
    refine fg_X5_19 (pc := 4) hc rfl rfl dX5_firstFault_4 ?_
    refine fg_X5_95 (pc := 7) hc rfl rfl (by decide) dX5_firstFault_7 ?_
    refine z_cge (pc := 10) (tgt := 53) hc (by omega) (by decide) dX5_firstFault_10 (fun h10 => ?_) (fun h10 => ?_)
    · exfalso; omega
    · show zJW X 13 [(1, zI ((i2 : Nat) : Int)), (0, zR 27)] [] M
      refine z_iconst (pc := 13) hc 0 dX5_firstFault_13 ?_
      refine z_ist (pc := 14) (lv' := [(2, zI 0), (1, zI ((i2 : Nat) : Int)), (0, zR 27)]) hc rfl (by decide) dX5_firstFault_14 ?_
      refine z_forI ((M 0 1).toNat) (fun i15 => [(2, zI ((i15 : Nat) : Int)), (1, zI ((i2 : Nat) : Int)), (0, zR 27)]) (fun i15 => M) (fun i15 => zrep (fun (c : Nat) (x : Int) => if x ≠ -6 then x else if decide (0 < faT (tsX M 0) i2 c) = true then 100 * (i2 : Int) + c else -6) i15 (-6) = -6) (by rfl) (by rfl) (by rfl) (fun hv15 => ?_) (fun i15 hi15 hv15 ih15 => ?_)
      · show zJW X 15 [(2, zI ((((M 0 1).toNat) : Nat) : Int)), (1, zI ((i2 : Nat) : Int)), (0, zR 27)] [] M
        refine z_ild (pc := 15) hc 0 rfl dX5_firstFault_15 ?_
        refine z_ald (pc := 16) hc 2 rfl dX5_firstFault_16 ?_
        refine fg_X5_19 (pc := 17) hc rfl rfl dX5_firstFault_17 ?_
        refine fg_X5_99 (pc := 20) hc rfl rfl (by decide) dX5_firstFault_20 ?_
        refine z_cge (pc := 23) (tgt := 47) hc (by omega) (by decide) dX5_firstFault_23 (fun h23 => ?_) (fun h23 => ?_)
        · show zJW X 47 [(2, zI ((((M 0 1).toNat) : Nat) : Int)), (1, zI ((i2 : Nat) : Int)), (0, zR 27)] [] M
          refine z_iinc (pc := 47) (lv' := [(1, zI (((i2 : Nat) : Int) + 1)), (2, zI ((((M 0 1).toNat) : Nat) : Int)), (0, zR 27)]) hc 1 rfl rfl (by decide) dX5_firstFault_47 ?_
          refine z_goto (pc := 50) (tgt := 2) hc (by decide) dX5_firstFault_50 ?_
          refine zJW_sub (lv' := [(1, zI (((i2 : Nat) : Int) + 1)), (0, zR 27)]) [0, 2] rfl ?_
          exact zJW_eq (by rfl) rfl (by rfl) (ih2 (by rw [zrep_succ, hv2]; exact hv15))
        · exfalso; omega
      · show zJW X 15 [(2, zI ((i15 : Nat) : Int)), (1, zI ((i2 : Nat) : Int)), (0, zR 27)] [] M
        have fb := faT_bd hS (i2 : Int) (i15 : Int)
        refine z_ild (pc := 15) hc 0 rfl dX5_firstFault_15 ?_
        refine z_ald (pc := 16) hc 2 rfl dX5_firstFault_16 ?_
        refine fg_X5_19 (pc := 17) hc rfl rfl dX5_firstFault_17 ?_
        refine fg_X5_99 (pc := 20) hc rfl rfl (by decide) dX5_firstFault_20 ?_
        refine z_cge (pc := 23) (tgt := 47) hc (by omega) (by decide) dX5_firstFault_23 (fun h23 => ?_) (fun h23 => ?_)
        · exfalso; omega
        · show zJW X 26 [(2, zI ((i15 : Nat) : Int)), (1, zI ((i2 : Nat) : Int)), (0, zR 27)] [] M
          refine z_ald (pc := 26) hc 2 rfl dX5_firstFault_26 ?_
          refine z_ild (pc := 27) hc 1 rfl dX5_firstFault_27 ?_
          refine z_ild (pc := 28) hc 0 rfl dX5_firstFault_28 ?_
          refine kc_X5_132 (pc := 29) hc rfl (zfitX (by decide) rfl rfl) rfl (Nat.le_of_ble_eq_true rfl) (ct_X5_faultsAt M (by assumption) (by assumption) ((i2 : Nat) : Int) ((i15 : Nat) : Int) (by omega) (by omega)) dX5_firstFault_29 ?_
          refine z_ile (pc := 32) (tgt := 41) hc (by omega) (by decide) dX5_firstFault_32 (fun h32 => ?_) (fun h32 => ?_)
          · show zJW X 41 [(2, zI ((i15 : Nat) : Int)), (1, zI ((i2 : Nat) : Int)), (0, zR 27)] [] M
            refine z_iinc (pc := 41) (lv' := [(2, zI (((i15 : Nat) : Int) + 1)), (1, zI ((i2 : Nat) : Int)), (0, zR 27)]) hc 0 rfl rfl (by decide) dX5_firstFault_41 ?_
            refine z_goto (pc := 44) (tgt := 15) hc (by decide) dX5_firstFault_44 ?_
            exact zJW_eq (by rfl) rfl (by rfl) (ih15 (by rw [zrep_succ, hv15]; simp; omega))
          · show zJW X 35 [(2, zI ((i15 : Nat) : Int)), (1, zI ((i2 : Nat) : Int)), (0, zR 27)] [] M
            refine z_ild (pc := 35) hc 1 rfl dX5_firstFault_35 ?_
            refine z_ild (pc := 36) hc 0 rfl dX5_firstFault_36 ?_
            refine kc_X5_145 (pc := 37) hc rfl (zfit0 (by decide) rfl rfl) (Nat.le_of_ble_eq_true rfl) (ct_X5_position M ((i2 : Nat) : Int) ((i15 : Nat) : Int)) dX5_firstFault_37 ?_
            exact z_iret (pc := 40) hc he rfl dX5_firstFault_40 (by refine ⟨congrArg some ?_, rfl⟩; exact (zfi_at hi2 hi15 hv2 hv15 (decide_eq_true h32)).symm)

set_option maxRecDepth 100000 in
set_option maxHeartbeats 4000000 in
theorem ct_X5_maskOf (M : Mem) (hS : zSk M 0) (hT : TbX M) (s : Int) (hb_s : -2147483648 ≤ s ∧ s < 2147483648)  : zCt yX5_maskOf KX5_maskOf [zR 27, zI s] M (fun zv zM => zv = some (moA s) ∧ zM = M) := by
  obtain ⟨hs1, hs2, hs3, hs4, hs5, hs6, hs7⟩ := id hS
  refine z_met (by decide) rfl (Nat.le_of_ble_eq_true rfl) (fun X hc he => ?_)
  show zJW X 0 [(0, zR 27), (1, zI s)] [] M
  refine z_ild (pc := 0) hc 1 rfl dX5_maskOf_0 ?_
  refine kc_X5_135 (pc := 1) hc rfl (zfit0 (by decide) rfl rfl) (Nat.le_of_ble_eq_true rfl) (ct_X5_isShape M s (by omega)) dX5_maskOf_1 ?_
  refine z_beq (pc := 4) (tgt := 18) hc (by decide) dX5_maskOf_4 (fun h4 => ?_) (fun h4 => ?_)
  · show zJW X 18 [(0, zR 27), (1, zI s)] [] M
    refine z_iconst (pc := 18) hc (-1) dX5_maskOf_18 ?_
    exact z_iret (pc := 19) hc he rfl dX5_maskOf_19 (by refine ⟨congrArg some ?_, rfl⟩; first | exact (if_pos h4).symm | exact (if_neg (of_decide_eq_false h4)).symm)
  · show zJW X 7 [(0, zR 27), (1, zI s)] [] M
    have h4 := of_decide_eq_true h4
    refine z_ald (pc := 7) hc 0 rfl dX5_maskOf_7 ?_
    refine fg_X5_12 (pc := 8) hc rfl rfl dX5_maskOf_8 ?_
    refine z_ild (pc := 11) hc 1 rfl dX5_maskOf_11 ?_
    refine kc_X5_148 (pc := 12) hc rfl (zfitX (by decide) rfl rfl) rfl (Nat.le_of_ble_eq_true rfl) (ct_X1_maskFor M (by assumption) s (by omega)) dX5_maskOf_12 ?_
    refine z_goto (pc := 15) (tgt := 19) hc (by decide) dX5_maskOf_15 ?_
    exact z_iret (pc := 19) hc he rfl dX5_maskOf_19 (by refine ⟨congrArg some ?_, rfl⟩; first | exact (if_pos h4).symm | exact (if_neg (of_decide_eq_false h4)).symm)

set_option maxRecDepth 100000 in
set_option maxHeartbeats 4000000 in
theorem ct_X5_land (M : Mem) (hS : zSk M 0) (hT : TbX M)   : zCt yX5_land KX5_land [zR 27] M (fun zv zM => zv = some (lnT (tsX M 0)) ∧ zM = M) := by
  obtain ⟨hs1, hs2, hs3, hs4, hs5, hs6, hs7⟩ := id hS
  refine z_met (by decide) rfl (Nat.le_of_ble_eq_true rfl) (fun X hc he => ?_)
  show zJW X 0 [(0, zR 27)] [] M
  refine z_ald (pc := 0) hc 0 rfl dX5_land_0 ?_
  refine fg_X5_19 (pc := 1) hc rfl rfl dX5_land_1 ?_
  refine kc_X5_165 (pc := 4) hc rfl (zfitX (by decide) rfl rfl) rfl (by decide) (Nat.le_of_ble_eq_true rfl) (ct_X3_landTiles M 0 (by omega) (by assumption)) dX5_land_4 ?_
  exact z_iret (pc := 7) hc he rfl dX5_land_7 (⟨rfl, rfl⟩)

set_option maxRecDepth 100000 in
set_option maxHeartbeats 4000000 in
theorem ct_X5_coast (M : Mem) (hS : zSk M 0) (hT : TbX M)   : zCt yX5_coast KX5_coast [zR 27] M (fun zv zM => zv = some (coA (tsX M 0)) ∧ zM = M) := by
  obtain ⟨hs1, hs2, hs3, hs4, hs5, hs6, hs7⟩ := id hS
  refine z_met (by decide) rfl (Nat.le_of_ble_eq_true rfl) (fun X hc he => ?_)
  show zJW X 0 [(0, zR 27)] [] M
  refine z_iconst (pc := 0) hc 0 dX5_coast_0 ?_
  refine z_ist (pc := 1) (lv' := [(1, zI 0), (0, zR 27)]) hc rfl (by decide) dX5_coast_1 ?_
  refine z_iconst (pc := 2) hc 0 dX5_coast_2 ?_
  refine z_ist (pc := 3) (lv' := [(2, zI 0), (1, zI 0), (0, zR 27)]) hc rfl (by decide) dX5_coast_3 ?_
  refine z_for ((M 0 0).toNat) (fun i4 => [(2, zI ((i4 : Nat) : Int)), (1, zI (zrep (fun (r : Nat) (x : Int) => zrep (fun (c : Nat) (y : Int) => y + coX (tsX M 0) r c) (tW (tsX M 0)).toNat x) i4 0)), (0, zR 27)]) (fun i4 => M) (by rfl) (by rfl) ?_ (fun i4 hi4 ih4 => ?_)
  · show zJW X 4 [(2, zI ((((M 0 0).toNat) : Nat) : Int)), (1, zI (zrep (fun (r : Nat) (x : Int) => zrep (fun (c : Nat) (y : Int) => y + coX (tsX M 0) r c) (tW (tsX M 0)).toNat x) ((M 0 0).toNat) 0)), (0, zR 27)] [] M
    refine z_ild (pc := 4) hc 0 rfl dX5_coast_4 ?_
    refine z_ald (pc := 5) hc 2 rfl dX5_coast_5 ?_
    refine fg_X5_19 (pc := 6) hc rfl rfl dX5_coast_6 ?_
    refine fg_X5_95 (pc := 9) hc rfl rfl (by decide) dX5_coast_9 ?_
    refine z_cge (pc := 12) (tgt := 72) hc (by omega) (by decide) dX5_coast_12 (fun h12 => ?_) (fun h12 => ?_)
    · show zJW X 72 [(2, zI ((((M 0 0).toNat) : Nat) : Int)), (1, zI (zrep (fun (r : Nat) (x : Int) => zrep (fun (c : Nat) (y : Int) => y + coX (tsX M 0) r c) (tW (tsX M 0)).toNat x) ((M 0 0).toNat) 0)), (0, zR 27)] [] M
      refine z_ild (pc := 72) hc 1 rfl dX5_coast_72 ?_
      exact z_iret (pc := 73) hc he rfl dX5_coast_73 (⟨rfl, rfl⟩)
    · exfalso; omega
  · show zJW X 4 [(2, zI ((i4 : Nat) : Int)), (1, zI (zrep (fun (r : Nat) (x : Int) => zrep (fun (c : Nat) (y : Int) => y + coX (tsX M 0) r c) (tW (tsX M 0)).toNat x) i4 0)), (0, zR 27)] [] M
    refine z_ild (pc := 4) hc 0 rfl dX5_coast_4 ?_
    refine z_ald (pc := 5) hc 2 rfl dX5_coast_5 ?_
    refine fg_X5_19 (pc := 6) hc rfl rfl dX5_coast_6 ?_
    refine fg_X5_95 (pc := 9) hc rfl rfl (by decide) dX5_coast_9 ?_
    refine z_cge (pc := 12) (tgt := 72) hc (by omega) (by decide) dX5_coast_12 (fun h12 => ?_) (fun h12 => ?_)
    · exfalso; omega
    · show zJW X 15 [(2, zI ((i4 : Nat) : Int)), (1, zI (zrep (fun (r : Nat) (x : Int) => zrep (fun (c : Nat) (y : Int) => y + coX (tsX M 0) r c) (tW (tsX M 0)).toNat x) i4 0)), (0, zR 27)] [] M
      refine z_iconst (pc := 15) hc 0 dX5_coast_15 ?_
      refine z_ist (pc := 16) (lv' := [(3, zI 0), (2, zI ((i4 : Nat) : Int)), (1, zI (zrep (fun (r : Nat) (x : Int) => zrep (fun (c : Nat) (y : Int) => y + coX (tsX M 0) r c) (tW (tsX M 0)).toNat x) i4 0)), (0, zR 27)]) hc rfl (by decide) dX5_coast_16 ?_
      refine z_for ((M 0 1).toNat) (fun i17 => [(3, zI ((i17 : Nat) : Int)), (2, zI ((i4 : Nat) : Int)), (1, zI (zrep (fun (c : Nat) (y : Int) => y + coX (tsX M 0) i4 c) i17 (zrep (fun (r : Nat) (x : Int) => zrep (fun (c : Nat) (y : Int) => y + coX (tsX M 0) r c) (tW (tsX M 0)).toNat x) i4 0))), (0, zR 27)]) (fun i17 => M) (by rfl) (by rfl) ?_ (fun i17 hi17 ih17 => ?_)
      · show zJW X 17 [(3, zI ((((M 0 1).toNat) : Nat) : Int)), (2, zI ((i4 : Nat) : Int)), (1, zI (zrep (fun (c : Nat) (y : Int) => y + coX (tsX M 0) i4 c) ((M 0 1).toNat) (zrep (fun (r : Nat) (x : Int) => zrep (fun (c : Nat) (y : Int) => y + coX (tsX M 0) r c) (tW (tsX M 0)).toNat x) i4 0))), (0, zR 27)] [] M
        refine z_ild (pc := 17) hc 0 rfl dX5_coast_17 ?_
        refine z_ald (pc := 18) hc 3 rfl dX5_coast_18 ?_
        refine fg_X5_19 (pc := 19) hc rfl rfl dX5_coast_19 ?_
        refine fg_X5_99 (pc := 22) hc rfl rfl (by decide) dX5_coast_22 ?_
        refine z_cge (pc := 25) (tgt := 66) hc (by omega) (by decide) dX5_coast_25 (fun h25 => ?_) (fun h25 => ?_)
        · show zJW X 66 [(3, zI ((((M 0 1).toNat) : Nat) : Int)), (2, zI ((i4 : Nat) : Int)), (1, zI (zrep (fun (c : Nat) (y : Int) => y + coX (tsX M 0) i4 c) ((M 0 1).toNat) (zrep (fun (r : Nat) (x : Int) => zrep (fun (c : Nat) (y : Int) => y + coX (tsX M 0) r c) (tW (tsX M 0)).toNat x) i4 0))), (0, zR 27)] [] M
          refine z_iinc (pc := 66) (lv' := [(2, zI (((i4 : Nat) : Int) + 1)), (3, zI ((((M 0 1).toNat) : Nat) : Int)), (1, zI (zrep (fun (c : Nat) (y : Int) => y + coX (tsX M 0) i4 c) ((M 0 1).toNat) (zrep (fun (r : Nat) (x : Int) => zrep (fun (c : Nat) (y : Int) => y + coX (tsX M 0) r c) (tW (tsX M 0)).toNat x) i4 0))), (0, zR 27)]) hc 1 rfl rfl (by decide) dX5_coast_66 ?_
          refine z_goto (pc := 69) (tgt := 4) hc (by decide) dX5_coast_69 ?_
          refine zJW_sub (lv' := [(2, zI (((i4 : Nat) : Int) + 1)), (1, zI (zrep (fun (c : Nat) (y : Int) => y + coX (tsX M 0) i4 c) ((M 0 1).toNat) (zrep (fun (r : Nat) (x : Int) => zrep (fun (c : Nat) (y : Int) => y + coX (tsX M 0) r c) (tW (tsX M 0)).toNat x) i4 0))), (0, zR 27)]) [0, 2, 3] rfl ?_
          exact zJW_eq (by rfl) rfl (by rfl) ih4
        · exfalso; omega
      · show zJW X 17 [(3, zI ((i17 : Nat) : Int)), (2, zI ((i4 : Nat) : Int)), (1, zI (zrep (fun (c : Nat) (y : Int) => y + coX (tsX M 0) i4 c) i17 (zrep (fun (r : Nat) (x : Int) => zrep (fun (c : Nat) (y : Int) => y + coX (tsX M 0) r c) (tW (tsX M 0)).toNat x) i4 0))), (0, zR 27)] [] M
        have zb := zan_bd (zxr (arT (tsX M 0) (i4 : Int) (i17 : Int)) (-1)) (m := 85) (by omega)
        refine z_ild (pc := 17) hc 0 rfl dX5_coast_17 ?_
        refine z_ald (pc := 18) hc 3 rfl dX5_coast_18 ?_
        refine fg_X5_19 (pc := 19) hc rfl rfl dX5_coast_19 ?_
        refine fg_X5_99 (pc := 22) hc rfl rfl (by decide) dX5_coast_22 ?_
        refine z_cge (pc := 25) (tgt := 66) hc (by omega) (by decide) dX5_coast_25 (fun h25 => ?_) (fun h25 => ?_)
        · exfalso; omega
        · show zJW X 28 [(3, zI ((i17 : Nat) : Int)), (2, zI ((i4 : Nat) : Int)), (1, zI (zrep (fun (c : Nat) (y : Int) => y + coX (tsX M 0) i4 c) i17 (zrep (fun (r : Nat) (x : Int) => zrep (fun (c : Nat) (y : Int) => y + coX (tsX M 0) r c) (tW (tsX M 0)).toNat x) i4 0))), (0, zR 27)] [] M
          refine z_ald (pc := 28) hc 3 rfl dX5_coast_28 ?_
          refine fg_X5_19 (pc := 29) hc rfl rfl dX5_coast_29 ?_
          refine z_ild (pc := 32) hc 1 rfl dX5_coast_32 ?_
          refine z_ild (pc := 33) hc 0 rfl dX5_coast_33 ?_
          refine kc_X5_77 (pc := 34) hc rfl (zfitX (by decide) rfl rfl) rfl (by decide) (Nat.le_of_ble_eq_true rfl) (ct_X3_isLandAt M 0 (by omega) (by first | assumption ) ((i4 : Nat) : Int) ((i17 : Nat) : Int) (by omega) (by omega)) dX5_coast_34 ?_
          refine z_beq (pc := 37) (tgt := 60) hc (by decide) dX5_coast_37 (fun h37 => ?_) (fun h37 => ?_)
          · show zJW X 60 [(3, zI ((i17 : Nat) : Int)), (2, zI ((i4 : Nat) : Int)), (1, zI (zrep (fun (c : Nat) (y : Int) => y + coX (tsX M 0) i4 c) i17 (zrep (fun (r : Nat) (x : Int) => zrep (fun (c : Nat) (y : Int) => y + coX (tsX M 0) r c) (tW (tsX M 0)).toNat x) i4 0))), (0, zR 27)] [] M
            refine z_iinc (pc := 60) (lv' := [(3, zI (((i17 : Nat) : Int) + 1)), (2, zI ((i4 : Nat) : Int)), (1, zI (zrep (fun (c : Nat) (y : Int) => y + coX (tsX M 0) i4 c) i17 (zrep (fun (r : Nat) (x : Int) => zrep (fun (c : Nat) (y : Int) => y + coX (tsX M 0) r c) (tW (tsX M 0)).toNat x) i4 0))), (0, zR 27)]) hc 0 rfl rfl (by decide) dX5_coast_60 ?_
            refine z_goto (pc := 63) (tgt := 17) hc (by decide) dX5_coast_63 ?_
            exact zJW_eq (by simp only [zrep_succ, coX, h37, ↓reduceIte, Bool.false_eq_true, Int.add_zero, Int.natCast_add, Int.natCast_one] <;> rfl) rfl (by rfl) ih17
          · show zJW X 40 [(3, zI ((i17 : Nat) : Int)), (2, zI ((i4 : Nat) : Int)), (1, zI (zrep (fun (c : Nat) (y : Int) => y + coX (tsX M 0) i4 c) i17 (zrep (fun (r : Nat) (x : Int) => zrep (fun (c : Nat) (y : Int) => y + coX (tsX M 0) r c) (tW (tsX M 0)).toNat x) i4 0))), (0, zR 27)] [] M
            refine z_ild (pc := 40) hc 2 rfl dX5_coast_40 ?_
            refine z_ald (pc := 41) hc 3 rfl dX5_coast_41 ?_
            refine fg_X5_19 (pc := 42) hc rfl rfl dX5_coast_42 ?_
            refine z_ild (pc := 45) hc 1 rfl dX5_coast_45 ?_
            refine z_ild (pc := 46) hc 0 rfl dX5_coast_46 ?_
            refine kc_X5_111 (pc := 47) hc rfl (zfitX (by decide) rfl rfl) rfl (by decide) (Nat.le_of_ble_eq_true rfl) (ct_X3_surroundingsOf M 0 (by omega) (by assumption) ((i4 : Nat) : Int) ((i17 : Nat) : Int) (by omega) (by omega)) dX5_coast_47 ?_
            refine z_iconst (pc := 50) hc (-1) dX5_coast_50 ?_
            refine z_ixor (pc := 51) hc dX5_coast_51 ?_
            refine z_bipush (pc := 52) hc 85 (by decide) dX5_coast_52 ?_
            refine z_iand (pc := 54) hc dX5_coast_54 ?_
            refine kc_X5_114 (pc := 55) hc rfl (zfit0 (by decide) rfl rfl) (Nat.le_of_ble_eq_true rfl) (ct_J6_bitCount_0f7a4 M (zan (zxr (arT (tsX M 0) ((i4 : Nat) : Int) ((i17 : Nat) : Int)) (-1)) 85) (by first | omega | exact zxr_bd (by omega) (by omega))) dX5_coast_55 ?_
            refine z_iadd (pc := 58) hc dX5_coast_58 ?_
            refine z_ist (pc := 59) (lv' := [(1, zI (zrep (fun (c : Nat) (y : Int) => y + coX (tsX M 0) i4 c) i17 (zrep (fun (r : Nat) (x : Int) => zrep (fun (c : Nat) (y : Int) => y + coX (tsX M 0) r c) (tW (tsX M 0)).toNat x) i4 0) + (bcZ (zan (zxr (arT (tsX M 0) ((i4 : Nat) : Int) ((i17 : Nat) : Int)) (-1)) 85)))), (3, zI ((i17 : Nat) : Int)), (2, zI ((i4 : Nat) : Int)), (0, zR 27)]) hc rfl (by decide) dX5_coast_59 ?_
            refine z_iinc (pc := 60) (lv' := [(3, zI (((i17 : Nat) : Int) + 1)), (1, zI (zrep (fun (c : Nat) (y : Int) => y + coX (tsX M 0) i4 c) i17 (zrep (fun (r : Nat) (x : Int) => zrep (fun (c : Nat) (y : Int) => y + coX (tsX M 0) r c) (tW (tsX M 0)).toNat x) i4 0) + (bcZ (zan (zxr (arT (tsX M 0) ((i4 : Nat) : Int) ((i17 : Nat) : Int)) (-1)) 85)))), (2, zI ((i4 : Nat) : Int)), (0, zR 27)]) hc 1 rfl rfl (by decide) dX5_coast_60 ?_
            refine z_goto (pc := 63) (tgt := 17) hc (by decide) dX5_coast_63 ?_
            refine zJW_sub (lv' := [(3, zI (((i17 : Nat) : Int) + 1)), (2, zI ((i4 : Nat) : Int)), (1, zI (zrep (fun (c : Nat) (y : Int) => y + coX (tsX M 0) i4 c) i17 (zrep (fun (r : Nat) (x : Int) => zrep (fun (c : Nat) (y : Int) => y + coX (tsX M 0) r c) (tW (tsX M 0)).toNat x) i4 0) + (bcZ (zan (zxr (arT (tsX M 0) ((i4 : Nat) : Int) ((i17 : Nat) : Int)) (-1)) 85)))), (0, zR 27)]) [0, 2, 1, 3] rfl ?_
            exact zJW_eq (by simp only [zrep_succ, coX, h37, ↓reduceIte, Bool.false_eq_true, Int.add_zero, Int.natCast_add, Int.natCast_one] <;> rfl) rfl (by rfl) ih17

set_option maxRecDepth 100000 in
set_option maxHeartbeats 4000000 in
theorem ct_X5_coastIfChanged (M : Mem) (hS : zSk M 0) (hT : TbX M) (r : Int) (hb_r : -2147483648 ≤ r ∧ r < 2147483648) (c : Int) (hb_c : -2147483648 ≤ c ∧ c < 2147483648)  : zCt yX5_coastIfChanged KX5_coastIfChanged [zR 27, zI r, zI c] M (fun zv zM => zv = some (ccA (tsX M 0) r c) ∧ zM = M) := by
  obtain ⟨hs1, hs2, hs3, hs4, hs5, hs6, hs7⟩ := id hS
  refine z_met (by decide) rfl (Nat.le_of_ble_eq_true rfl) (fun X hc he => ?_)
  show zJW X 0 [(0, zR 27), (1, zI r), (2, zI c)] [] M
  refine z_ald (pc := 0) hc 0 rfl dX5_coastIfChanged_0 ?_
  refine fg_X5_19 (pc := 1) hc rfl rfl dX5_coastIfChanged_1 ?_
  refine z_ild (pc := 4) hc 1 rfl dX5_coastIfChanged_4 ?_
  refine z_ild (pc := 5) hc 2 rfl dX5_coastIfChanged_5 ?_
  refine kc_X5_73 (pc := 6) hc rfl (zfitX (by decide) rfl rfl) rfl (by decide) (Nat.le_of_ble_eq_true rfl) (ct_X3_has M 0 (by omega) (by first | assumption ) r c (by omega) (by omega)) dX5_coastIfChanged_6 ?_
  refine z_bne (pc := 9) (tgt := 14) hc (by decide) dX5_coastIfChanged_9 (fun h9 => ?_) (fun h9 => ?_)
  · show zJW X 14 [(0, zR 27), (1, zI r), (2, zI c)] [] M
    have h9' := h9
    rw [inT_X] at h9'
    have h9' := of_decide_eq_true h9'
    refine z_iconst (pc := 14) hc 0 dX5_coastIfChanged_14 ?_
    refine z_ist (pc := 15) (lv' := [(3, zI 0), (0, zR 27), (1, zI r), (2, zI c)]) hc rfl (by decide) dX5_coastIfChanged_15 ?_
    refine z_iconst (pc := 16) hc 0 dX5_coastIfChanged_16 ?_
    refine z_isw (pc := 17) (lv' := [(4, zI 0), (3, zI 0), (0, zR 27), (1, zI r), (2, zI c)]) hc rfl (by decide) dX5_coastIfChanged_17 ?_
    refine z_for 4 (fun i19 => [(4, zI (2 * ((i19 : Nat) : Int))), (3, zI (zrep (fun (d : Nat) (x : Int) => if laT (tsX M 0) (r + zrow (2 * d)) (c + zcol (2 * d)) then (if inT (tsX M 0) (r + zrow (2 * d)) (c + zcol (2 * d)) then x + (-1) else x) else x + 1) i19 0)), (0, zR 27), (1, zI r), (2, zI c)]) (fun i19 => M) (by rfl) (by rfl) ?_ (fun i19 hi19 ih19 => ?_)
    · show zJW X 19 [(4, zI (2 * 4)), (3, zI (zrep (fun (d : Nat) (x : Int) => if laT (tsX M 0) (r + zrow (2 * d)) (c + zcol (2 * d)) then (if inT (tsX M 0) (r + zrow (2 * d)) (c + zcol (2 * d)) then x + (-1) else x) else x + 1) 4 0)), (0, zR 27), (1, zI r), (2, zI c)] [] M
      refine z_ilw (pc := 19) hc 0 rfl dX5_coastIfChanged_19 ?_
      refine z_bipush (pc := 21) hc 8 (by decide) dX5_coastIfChanged_21 ?_
      refine z_cge (pc := 23) (tgt := 87) hc (by omega) (by decide) dX5_coastIfChanged_23 (fun h23 => ?_) (fun h23 => ?_)
      · show zJW X 87 [(4, zI (2 * 4)), (3, zI (zrep (fun (d : Nat) (x : Int) => if laT (tsX M 0) (r + zrow (2 * d)) (c + zcol (2 * d)) then (if inT (tsX M 0) (r + zrow (2 * d)) (c + zcol (2 * d)) then x + (-1) else x) else x + 1) 4 0)), (0, zR 27), (1, zI r), (2, zI c)] [] M
        refine z_bipush (pc := 87) hc 100 (by decide) dX5_coastIfChanged_87 ?_
        refine z_ald (pc := 89) hc 2 rfl dX5_coastIfChanged_89 ?_
        refine fg_X5_19 (pc := 90) hc rfl rfl dX5_coastIfChanged_90 ?_
        refine z_ild (pc := 93) hc 3 rfl dX5_coastIfChanged_93 ?_
        refine z_ild (pc := 94) hc 4 rfl dX5_coastIfChanged_94 ?_
        refine kc_X5_77 (pc := 95) hc rfl (zfitX (by decide) rfl rfl) rfl (by decide) (Nat.le_of_ble_eq_true rfl) (ct_X3_isLandAt M 0 (by omega) (by first | assumption ) r c (by omega) (by omega)) dX5_coastIfChanged_95 ?_
        refine z_beq (pc := 98) (tgt := 106) hc (by decide) dX5_coastIfChanged_98 (fun h98 => ?_) (fun h98 => ?_)
        · show zJW X 106 [(4, zI (2 * 4)), (3, zI (zrep (fun (d : Nat) (x : Int) => if laT (tsX M 0) (r + zrow (2 * d)) (c + zcol (2 * d)) then (if inT (tsX M 0) (r + zrow (2 * d)) (c + zcol (2 * d)) then x + (-1) else x) else x + 1) 4 0)), (0, zR 27), (1, zI r), (2, zI c)] [zI 100] M
          refine z_ild (pc := 106) hc 1 rfl dX5_coastIfChanged_106 ?_
          refine z_iadd (pc := 107) hc dX5_coastIfChanged_107 ?_
          exact z_iret (pc := 108) hc he rfl dX5_coastIfChanged_108 (by refine ⟨congrArg some ?_, rfl⟩; rw [ccA, if_pos h9, h98]; rfl)
        · show zJW X 101 [(4, zI (2 * 4)), (3, zI (zrep (fun (d : Nat) (x : Int) => if laT (tsX M 0) (r + zrow (2 * d)) (c + zcol (2 * d)) then (if inT (tsX M 0) (r + zrow (2 * d)) (c + zcol (2 * d)) then x + (-1) else x) else x + 1) 4 0)), (0, zR 27), (1, zI r), (2, zI c)] [zI 100] M
          refine z_ild (pc := 101) hc 1 rfl dX5_coastIfChanged_101 ?_
          refine z_ineg (pc := 102) hc dX5_coastIfChanged_102 ?_
          refine z_goto (pc := 103) (tgt := 107) hc (by decide) dX5_coastIfChanged_103 ?_
          refine z_iadd (pc := 107) hc dX5_coastIfChanged_107 ?_
          exact z_iret (pc := 108) hc he rfl dX5_coastIfChanged_108 (by refine ⟨congrArg some ?_, rfl⟩; rw [ccA, if_pos h9, h98]; rfl)
      · exfalso; omega
    · show zJW X 19 [(4, zI (2 * ((i19 : Nat) : Int))), (3, zI (zrep (fun (d : Nat) (x : Int) => if laT (tsX M 0) (r + zrow (2 * d)) (c + zcol (2 * d)) then (if inT (tsX M 0) (r + zrow (2 * d)) (c + zcol (2 * d)) then x + (-1) else x) else x + 1) i19 0)), (0, zR 27), (1, zI r), (2, zI c)] [] M
      have zr := zrow_bd (2 * (i19 : Int))
      have zc := zcol_bd (2 * (i19 : Int))
      refine z_ilw (pc := 19) hc 0 rfl dX5_coastIfChanged_19 ?_
      refine z_bipush (pc := 21) hc 8 (by decide) dX5_coastIfChanged_21 ?_
      refine z_cge (pc := 23) (tgt := 87) hc (by omega) (by decide) dX5_coastIfChanged_23 (fun h23 => ?_) (fun h23 => ?_)
      · exfalso; omega
      · show zJW X 26 [(4, zI (2 * ((i19 : Nat) : Int))), (3, zI (zrep (fun (d : Nat) (x : Int) => if laT (tsX M 0) (r + zrow (2 * d)) (c + zcol (2 * d)) then (if inT (tsX M 0) (r + zrow (2 * d)) (c + zcol (2 * d)) then x + (-1) else x) else x + 1) i19 0)), (0, zR 27), (1, zI r), (2, zI c)] [] M
        refine z_ild (pc := 26) hc 3 rfl dX5_coastIfChanged_26 ?_
        refine z_ilw (pc := 27) hc 0 rfl dX5_coastIfChanged_27 ?_
        refine kc_X5_178 (pc := 29) hc rfl (zfitS (by decide) rfl rfl) (Nat.le_of_ble_eq_true rfl) (ct_X5_rowStep M (2 * ((i19 : Nat) : Int)) (by omega)) dX5_coastIfChanged_29 ?_
        refine z_iadd (pc := 32) hc dX5_coastIfChanged_32 ?_
        refine z_isw (pc := 33) (lv' := [(5, zI (r + (zrow (2 * ((i19 : Nat) : Int))))), (4, zI (2 * ((i19 : Nat) : Int))), (3, zI (zrep (fun (d : Nat) (x : Int) => if laT (tsX M 0) (r + zrow (2 * d)) (c + zcol (2 * d)) then (if inT (tsX M 0) (r + zrow (2 * d)) (c + zcol (2 * d)) then x + (-1) else x) else x + 1) i19 0)), (0, zR 27), (1, zI r), (2, zI c)]) hc rfl (by decide) dX5_coastIfChanged_33 ?_
        refine z_ild (pc := 35) hc 5 rfl dX5_coastIfChanged_35 ?_
        refine z_ilw (pc := 36) hc 1 rfl dX5_coastIfChanged_36 ?_
        refine kc_X5_181 (pc := 38) hc rfl (zfitS (by decide) rfl rfl) (Nat.le_of_ble_eq_true rfl) (ct_X5_columnStep M (2 * ((i19 : Nat) : Int)) (by omega)) dX5_coastIfChanged_38 ?_
        refine z_iadd (pc := 41) hc dX5_coastIfChanged_41 ?_
        refine z_isw (pc := 42) (lv' := [(6, zI (c + (zcol (2 * ((i19 : Nat) : Int))))), (5, zI (r + (zrow (2 * ((i19 : Nat) : Int))))), (4, zI (2 * ((i19 : Nat) : Int))), (3, zI (zrep (fun (d : Nat) (x : Int) => if laT (tsX M 0) (r + zrow (2 * d)) (c + zcol (2 * d)) then (if inT (tsX M 0) (r + zrow (2 * d)) (c + zcol (2 * d)) then x + (-1) else x) else x + 1) i19 0)), (0, zR 27), (1, zI r), (2, zI c)]) hc rfl (by decide) dX5_coastIfChanged_42 ?_
        refine z_ald (pc := 44) hc 4 rfl dX5_coastIfChanged_44 ?_
        refine fg_X5_19 (pc := 45) hc rfl rfl dX5_coastIfChanged_45 ?_
        refine z_ilw (pc := 48) hc 1 rfl dX5_coastIfChanged_48 ?_
        refine z_ilw (pc := 50) hc 0 rfl dX5_coastIfChanged_50 ?_
        refine kc_X5_77 (pc := 52) hc rfl (zfitX (by decide) rfl rfl) rfl (by decide) (Nat.le_of_ble_eq_true rfl) (ct_X3_isLandAt M 0 (by omega) (by first | assumption ) (r + (zrow (2 * ((i19 : Nat) : Int)))) (c + (zcol (2 * ((i19 : Nat) : Int)))) (by omega) (by omega)) dX5_coastIfChanged_52 ?_
        refine z_bne (pc := 55) (tgt := 64) hc (by decide) dX5_coastIfChanged_55 (fun h55 => ?_) (fun h55 => ?_)
        · show zJW X 64 [(6, zI (c + (zcol (2 * ((i19 : Nat) : Int))))), (5, zI (r + (zrow (2 * ((i19 : Nat) : Int))))), (4, zI (2 * ((i19 : Nat) : Int))), (3, zI (zrep (fun (d : Nat) (x : Int) => if laT (tsX M 0) (r + zrow (2 * d)) (c + zcol (2 * d)) then (if inT (tsX M 0) (r + zrow (2 * d)) (c + zcol (2 * d)) then x + (-1) else x) else x + 1) i19 0)), (0, zR 27), (1, zI r), (2, zI c)] [] M
          refine z_ald (pc := 64) hc 4 rfl dX5_coastIfChanged_64 ?_
          refine fg_X5_19 (pc := 65) hc rfl rfl dX5_coastIfChanged_65 ?_
          refine z_ilw (pc := 68) hc 1 rfl dX5_coastIfChanged_68 ?_
          refine z_ilw (pc := 70) hc 0 rfl dX5_coastIfChanged_70 ?_
          refine kc_X5_73 (pc := 72) hc rfl (zfitX (by decide) rfl rfl) rfl (by decide) (Nat.le_of_ble_eq_true rfl) (ct_X3_has M 0 (by omega) (by first | assumption ) (r + (zrow (2 * ((i19 : Nat) : Int)))) (c + (zcol (2 * ((i19 : Nat) : Int)))) (by omega) (by omega)) dX5_coastIfChanged_72 ?_
          refine z_beq (pc := 75) (tgt := 81) hc (by decide) dX5_coastIfChanged_75 (fun h75 => ?_) (fun h75 => ?_)
          · show zJW X 81 [(6, zI (c + (zcol (2 * ((i19 : Nat) : Int))))), (5, zI (r + (zrow (2 * ((i19 : Nat) : Int))))), (4, zI (2 * ((i19 : Nat) : Int))), (3, zI (zrep (fun (d : Nat) (x : Int) => if laT (tsX M 0) (r + zrow (2 * d)) (c + zcol (2 * d)) then (if inT (tsX M 0) (r + zrow (2 * d)) (c + zcol (2 * d)) then x + (-1) else x) else x + 1) i19 0)), (0, zR 27), (1, zI r), (2, zI c)] [] M
            refine z_iinc (pc := 81) (lv' := [(4, zI ((2 * ((i19 : Nat) : Int)) + 2)), (6, zI (c + (zcol (2 * ((i19 : Nat) : Int))))), (5, zI (r + (zrow (2 * ((i19 : Nat) : Int))))), (3, zI (zrep (fun (d : Nat) (x : Int) => if laT (tsX M 0) (r + zrow (2 * d)) (c + zcol (2 * d)) then (if inT (tsX M 0) (r + zrow (2 * d)) (c + zcol (2 * d)) then x + (-1) else x) else x + 1) i19 0)), (0, zR 27), (1, zI r), (2, zI c)]) hc 2 rfl rfl (by decide) dX5_coastIfChanged_81 ?_
            refine z_goto (pc := 84) (tgt := 19) hc (by decide) dX5_coastIfChanged_84 ?_
            refine zJW_sub (lv' := [(4, zI ((2 * ((i19 : Nat) : Int)) + 2)), (3, zI (zrep (fun (d : Nat) (x : Int) => if laT (tsX M 0) (r + zrow (2 * d)) (c + zcol (2 * d)) then (if inT (tsX M 0) (r + zrow (2 * d)) (c + zcol (2 * d)) then x + (-1) else x) else x + 1) i19 0)), (0, zR 27), (1, zI r), (2, zI c)]) [0, 3, 4, 5, 6] rfl ?_
            exact zJW_eq (by first | simp only [zrep_succ, h55, h75, ↓reduceIte, Bool.false_eq_true, Int.natCast_add, Int.natCast_one, Int.mul_add, Int.mul_one] | simp only [zrep_succ, h55, ↓reduceIte, Bool.false_eq_true, Int.natCast_add, Int.natCast_one, Int.mul_add, Int.mul_one]) rfl (by rfl) ih19
          · show zJW X 78 [(6, zI (c + (zcol (2 * ((i19 : Nat) : Int))))), (5, zI (r + (zrow (2 * ((i19 : Nat) : Int))))), (4, zI (2 * ((i19 : Nat) : Int))), (3, zI (zrep (fun (d : Nat) (x : Int) => if laT (tsX M 0) (r + zrow (2 * d)) (c + zcol (2 * d)) then (if inT (tsX M 0) (r + zrow (2 * d)) (c + zcol (2 * d)) then x + (-1) else x) else x + 1) i19 0)), (0, zR 27), (1, zI r), (2, zI c)] [] M
            refine z_iinc (pc := 78) (lv' := [(3, zI (zrep (fun (d : Nat) (x : Int) => if laT (tsX M 0) (r + zrow (2 * d)) (c + zcol (2 * d)) then (if inT (tsX M 0) (r + zrow (2 * d)) (c + zcol (2 * d)) then x + (-1) else x) else x + 1) i19 0 + (-1))), (6, zI (c + (zcol (2 * ((i19 : Nat) : Int))))), (5, zI (r + (zrow (2 * ((i19 : Nat) : Int))))), (4, zI (2 * ((i19 : Nat) : Int))), (0, zR 27), (1, zI r), (2, zI c)]) hc 3 rfl rfl (by decide) dX5_coastIfChanged_78 ?_
            refine z_iinc (pc := 81) (lv' := [(4, zI ((2 * ((i19 : Nat) : Int)) + 2)), (3, zI (zrep (fun (d : Nat) (x : Int) => if laT (tsX M 0) (r + zrow (2 * d)) (c + zcol (2 * d)) then (if inT (tsX M 0) (r + zrow (2 * d)) (c + zcol (2 * d)) then x + (-1) else x) else x + 1) i19 0 + (-1))), (6, zI (c + (zcol (2 * ((i19 : Nat) : Int))))), (5, zI (r + (zrow (2 * ((i19 : Nat) : Int))))), (0, zR 27), (1, zI r), (2, zI c)]) hc 3 rfl rfl (by decide) dX5_coastIfChanged_81 ?_
            refine z_goto (pc := 84) (tgt := 19) hc (by decide) dX5_coastIfChanged_84 ?_
            refine zJW_sub (lv' := [(4, zI ((2 * ((i19 : Nat) : Int)) + 2)), (3, zI (zrep (fun (d : Nat) (x : Int) => if laT (tsX M 0) (r + zrow (2 * d)) (c + zcol (2 * d)) then (if inT (tsX M 0) (r + zrow (2 * d)) (c + zcol (2 * d)) then x + (-1) else x) else x + 1) i19 0 + (-1))), (0, zR 27), (1, zI r), (2, zI c)]) [0, 1, 4, 5, 6] rfl ?_
            exact zJW_eq (by first | simp only [zrep_succ, h55, h75, ↓reduceIte, Bool.false_eq_true, Int.natCast_add, Int.natCast_one, Int.mul_add, Int.mul_one] | simp only [zrep_succ, h55, ↓reduceIte, Bool.false_eq_true, Int.natCast_add, Int.natCast_one, Int.mul_add, Int.mul_one]) rfl (by rfl) ih19
        · show zJW X 58 [(6, zI (c + (zcol (2 * ((i19 : Nat) : Int))))), (5, zI (r + (zrow (2 * ((i19 : Nat) : Int))))), (4, zI (2 * ((i19 : Nat) : Int))), (3, zI (zrep (fun (d : Nat) (x : Int) => if laT (tsX M 0) (r + zrow (2 * d)) (c + zcol (2 * d)) then (if inT (tsX M 0) (r + zrow (2 * d)) (c + zcol (2 * d)) then x + (-1) else x) else x + 1) i19 0)), (0, zR 27), (1, zI r), (2, zI c)] [] M
          refine z_iinc (pc := 58) (lv' := [(3, zI (zrep (fun (d : Nat) (x : Int) => if laT (tsX M 0) (r + zrow (2 * d)) (c + zcol (2 * d)) then (if inT (tsX M 0) (r + zrow (2 * d)) (c + zcol (2 * d)) then x + (-1) else x) else x + 1) i19 0 + 1)), (6, zI (c + (zcol (2 * ((i19 : Nat) : Int))))), (5, zI (r + (zrow (2 * ((i19 : Nat) : Int))))), (4, zI (2 * ((i19 : Nat) : Int))), (0, zR 27), (1, zI r), (2, zI c)]) hc 3 rfl rfl (by decide) dX5_coastIfChanged_58 ?_
          refine z_goto (pc := 61) (tgt := 81) hc (by decide) dX5_coastIfChanged_61 ?_
          refine z_iinc (pc := 81) (lv' := [(4, zI ((2 * ((i19 : Nat) : Int)) + 2)), (3, zI (zrep (fun (d : Nat) (x : Int) => if laT (tsX M 0) (r + zrow (2 * d)) (c + zcol (2 * d)) then (if inT (tsX M 0) (r + zrow (2 * d)) (c + zcol (2 * d)) then x + (-1) else x) else x + 1) i19 0 + 1)), (6, zI (c + (zcol (2 * ((i19 : Nat) : Int))))), (5, zI (r + (zrow (2 * ((i19 : Nat) : Int))))), (0, zR 27), (1, zI r), (2, zI c)]) hc 3 rfl rfl (by decide) dX5_coastIfChanged_81 ?_
          refine z_goto (pc := 84) (tgt := 19) hc (by decide) dX5_coastIfChanged_84 ?_
          refine zJW_sub (lv' := [(4, zI ((2 * ((i19 : Nat) : Int)) + 2)), (3, zI (zrep (fun (d : Nat) (x : Int) => if laT (tsX M 0) (r + zrow (2 * d)) (c + zcol (2 * d)) then (if inT (tsX M 0) (r + zrow (2 * d)) (c + zcol (2 * d)) then x + (-1) else x) else x + 1) i19 0 + 1)), (0, zR 27), (1, zI r), (2, zI c)]) [0, 1, 4, 5, 6] rfl ?_
          exact zJW_eq (by first | simp only [zrep_succ, h55, h75, ↓reduceIte, Bool.false_eq_true, Int.natCast_add, Int.natCast_one, Int.mul_add, Int.mul_one] | simp only [zrep_succ, h55, ↓reduceIte, Bool.false_eq_true, Int.natCast_add, Int.natCast_one, Int.mul_add, Int.mul_one]) rfl (by rfl) ih19
  · show zJW X 12 [(0, zR 27), (1, zI r), (2, zI c)] [] M
    refine z_iconst (pc := 12) hc (-1) dX5_coastIfChanged_12 ?_
    exact z_iret (pc := 13) hc he rfl dX5_coastIfChanged_13 (by refine ⟨?_, rfl⟩; rw [ccA, h9]; rfl)

set_option maxRecDepth 100000 in
set_option maxHeartbeats 4000000 in
theorem ct_X5_needs (M : Mem) (hS : zSk M 0) (hT : TbX M) (r : Int) (hb_r : -2147483648 ≤ r ∧ r < 2147483648) (c : Int) (hb_c : -2147483648 ≤ c ∧ c < 2147483648) (s : Int) (hb_s : -2147483648 ≤ s ∧ s < 2147483648)  : zCt yX5_needs KX5_needs [zR 27, zI r, zI c, zI s] M (fun zv zM => zv = some (neA (tsX M 0) r c s) ∧ zM = M) := by
  obtain ⟨hs1, hs2, hs3, hs4, hs5, hs6, hs7⟩ := id hS
  refine z_met (by decide) rfl (Nat.le_of_ble_eq_true rfl) (fun X hc he => ?_)
  show zJW X 0 [(0, zR 27), (1, zI r), (2, zI c), (3, zI s)] [] M
  refine z_ald (pc := 0) hc 0 rfl dX5_needs_0 ?_
  refine fg_X5_19 (pc := 1) hc rfl rfl dX5_needs_1 ?_
  refine z_ild (pc := 4) hc 1 rfl dX5_needs_4 ?_
  refine z_ild (pc := 5) hc 2 rfl dX5_needs_5 ?_
  refine kc_X5_73 (pc := 6) hc rfl (zfitX (by decide) rfl rfl) rfl (by decide) (Nat.le_of_ble_eq_true rfl) (ct_X3_has M 0 (by omega) (by first | assumption ) r c (by omega) (by omega)) dX5_needs_6 ?_
  skip
  refine z_beq (pc := 9) (tgt := 19) hc (by decide) dX5_needs_9 (fun h9 => ?_) (fun h9 => ?_)
  · show zJW X 19 [(0, zR 27), (1, zI r), (2, zI c), (3, zI s)] [] M
    refine z_iconst (pc := 19) hc (-1) dX5_needs_19 ?_
    exact z_iret (pc := 20) hc he rfl dX5_needs_20 (by refine ⟨congrArg some ?_, rfl⟩; refine (if_neg (fun h => ?_)).symm; first | (rw [h9] at h; exact absurd h.1 (by decide)) | exact of_decide_eq_false h16 h.2)
  · show zJW X 12 [(0, zR 27), (1, zI r), (2, zI c), (3, zI s)] [] M
    have h9' := h9
    rw [inT_X] at h9'
    have h9' := of_decide_eq_true h9'
    refine z_ild (pc := 12) hc 3 rfl dX5_needs_12 ?_
    refine kc_X5_135 (pc := 13) hc rfl (zfit0 (by decide) rfl rfl) (Nat.le_of_ble_eq_true rfl) (ct_X5_isShape M s (by omega)) dX5_needs_13 ?_
    refine z_bne (pc := 16) (tgt := 21) hc (by decide) dX5_needs_16 (fun h16 => ?_) (fun h16 => ?_)
    · show zJW X 21 [(0, zR 27), (1, zI r), (2, zI c), (3, zI s)] [] M
      have h16 := of_decide_eq_true h16
      have mb := mkZ_bd h16
      have tb := btZ_bd (mkZ s)
      have wb := zan_bd (zxr (mkZ s) (arT (tsX M 0) r c)) (m := btZ (mkZ s)) (by omega)
      have ob := obT_bd (tsX M 0) r c
      have xb := zan_bd (zan (zxr (mkZ s) (arT (tsX M 0) r c)) (btZ (mkZ s))) (m := obT (tsX M 0) r c) (by omega)
      refine z_ald (pc := 21) hc 0 rfl dX5_needs_21 ?_
      refine fg_X5_12 (pc := 22) hc rfl rfl dX5_needs_22 ?_
      refine z_ild (pc := 25) hc 3 rfl dX5_needs_25 ?_
      refine kc_X5_148 (pc := 26) hc rfl (zfitX (by decide) rfl rfl) rfl (Nat.le_of_ble_eq_true rfl) (ct_X1_maskFor M (by assumption) s (by omega)) dX5_needs_26 ?_
      refine z_isw (pc := 29) (lv' := [(4, zI (mkZ s)), (0, zR 27), (1, zI r), (2, zI c), (3, zI s)]) hc rfl (by decide) dX5_needs_29 ?_
      refine z_ilw (pc := 31) hc 0 rfl dX5_needs_31 ?_
      refine z_ald (pc := 33) hc 1 rfl dX5_needs_33 ?_
      refine fg_X5_19 (pc := 34) hc rfl rfl dX5_needs_34 ?_
      refine z_ild (pc := 37) hc 2 rfl dX5_needs_37 ?_
      refine z_ild (pc := 38) hc 3 rfl dX5_needs_38 ?_
      refine kc_X5_111 (pc := 39) hc rfl (zfitX (by decide) rfl rfl) rfl (by decide) (Nat.le_of_ble_eq_true rfl) (ct_X3_surroundingsOf M 0 (by omega) (by assumption) r c (by omega) (by omega)) dX5_needs_39 ?_
      refine z_ixor (pc := 42) hc dX5_needs_42 ?_
      refine z_ilw (pc := 43) hc 0 rfl dX5_needs_43 ?_
      refine kc_X5_184 (pc := 45) hc rfl (zfit0 (by decide) rfl rfl) (Nat.le_of_ble_eq_true rfl) (ct_X5_bitsThatCount M (mkZ s)) dX5_needs_45 ?_
      refine z_iand (pc := 48) hc dX5_needs_48 ?_
      refine z_isw (pc := 49) (lv' := [(5, zI (zan (zxr (mkZ s) (arT (tsX M 0) r c)) (btZ (mkZ s)))), (4, zI (mkZ s)), (0, zR 27), (1, zI r), (2, zI c), (3, zI s)]) hc rfl (by decide) dX5_needs_49 ?_
      refine z_ilw (pc := 51) hc 0 rfl dX5_needs_51 ?_
      refine z_ald (pc := 53) hc 2 rfl dX5_needs_53 ?_
      refine fg_X5_19 (pc := 54) hc rfl rfl dX5_needs_54 ?_
      refine z_ild (pc := 57) hc 3 rfl dX5_needs_57 ?_
      refine z_ild (pc := 58) hc 4 rfl dX5_needs_58 ?_
      refine kc_X5_187 (pc := 59) hc rfl (zfitX (by decide) rfl rfl) rfl (by decide) (Nat.le_of_ble_eq_true rfl) (ct_X3_outsideBitsOf M 0 (by omega) (by assumption) r c (by omega) (by omega)) dX5_needs_59 ?_
      refine z_iand (pc := 62) hc dX5_needs_62 ?_
      refine z_ieq (pc := 63) (tgt := 69) hc (by omega) (by decide) dX5_needs_63 (fun h63 => ?_) (fun h63 => ?_)
      · show zJW X 69 [(5, zI (zan (zxr (mkZ s) (arT (tsX M 0) r c)) (btZ (mkZ s)))), (4, zI (mkZ s)), (0, zR 27), (1, zI r), (2, zI c), (3, zI s)] [] M
        refine z_ilw (pc := 69) hc 0 rfl dX5_needs_69 ?_
        refine kc_X5_114 (pc := 71) hc rfl (zfit0 (by decide) rfl rfl) (Nat.le_of_ble_eq_true rfl) (ct_J6_bitCount_0f7a4 M (zan (zxr (mkZ s) (arT (tsX M 0) r c)) (btZ (mkZ s))) (by first | omega | exact zxr_bd (by omega) (by omega))) dX5_needs_71 ?_
        exact z_iret (pc := 74) hc he rfl dX5_needs_74 (by refine ⟨congrArg some ?_, rfl⟩; rw [neA, if_pos ⟨h9, h16⟩]; exact (if_neg (fun h => h h63)).symm)
      · show zJW X 66 [(5, zI (zan (zxr (mkZ s) (arT (tsX M 0) r c)) (btZ (mkZ s)))), (4, zI (mkZ s)), (0, zR 27), (1, zI r), (2, zI c), (3, zI s)] [] M
        refine z_bipush (pc := 66) hc (-6) (by decide) dX5_needs_66 ?_
        exact z_iret (pc := 68) hc he rfl dX5_needs_68 (by refine ⟨congrArg some ?_, rfl⟩; rw [neA, if_pos ⟨h9, h16⟩]; exact (if_pos h63).symm)
    · show zJW X 19 [(0, zR 27), (1, zI r), (2, zI c), (3, zI s)] [] M
      refine z_iconst (pc := 19) hc (-1) dX5_needs_19 ?_
      exact z_iret (pc := 20) hc he rfl dX5_needs_20 (by refine ⟨congrArg some ?_, rfl⟩; refine (if_neg (fun h => ?_)).symm; first | (rw [h9] at h; exact absurd h.1 (by decide)) | exact of_decide_eq_false h16 h.2)
