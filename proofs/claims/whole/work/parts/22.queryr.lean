set_option maxRecDepth 100000 in
set_option maxHeartbeats 4000000 in
theorem ct_X6_rows (M : Mem) (hZ : zRf (M 39)) (hU : TbR M) (hO : TOk (tsZ (M 39)))   : zCt yX6_rows KX6_rows [zR 38] M (fun zv zM => zv = some (tH (tsZ (M 39))) ∧ zM = M) := by
  obtain ⟨hs1, hs2, hs3, hs4, hs5, hs6, hs7⟩ := id hZ
  have hw9 := zhw hs1 hs2 hs3 hs4
  refine z_met (by decide) rfl (Nat.le_of_ble_eq_true rfl) (fun X hc he => ?_)
  show zJW X 0 [(0, zR 38)] [] M
  refine z_ald (pc := 0) hc 0 rfl dX6_rows_0 ?_
  refine fg_X6_7 (pc := 1) hc rfl rfl dX6_rows_1 ?_
  refine z_iconst (pc := 4) hc 0 dX6_rows_4 ?_
  refine z_iald (pc := 5) hc rfl rfl rfl (by decide) (by omega) dX6_rows_5 ?_
  exact z_iret (pc := 6) hc he rfl dX6_rows_6 (⟨rfl, rfl⟩)

set_option maxRecDepth 100000 in
set_option maxHeartbeats 4000000 in
theorem ct_X6_columns (M : Mem) (hZ : zRf (M 39)) (hU : TbR M) (hO : TOk (tsZ (M 39)))   : zCt yX6_columns KX6_columns [zR 38] M (fun zv zM => zv = some (tW (tsZ (M 39))) ∧ zM = M) := by
  obtain ⟨hs1, hs2, hs3, hs4, hs5, hs6, hs7⟩ := id hZ
  have hw9 := zhw hs1 hs2 hs3 hs4
  refine z_met (by decide) rfl (Nat.le_of_ble_eq_true rfl) (fun X hc he => ?_)
  show zJW X 0 [(0, zR 38)] [] M
  refine z_ald (pc := 0) hc 0 rfl dX6_columns_0 ?_
  refine fg_X6_7 (pc := 1) hc rfl rfl dX6_columns_1 ?_
  refine z_iconst (pc := 4) hc 1 dX6_columns_4 ?_
  refine z_iald (pc := 5) hc rfl rfl rfl (by decide) (by omega) dX6_columns_5 ?_
  exact z_iret (pc := 6) hc he rfl dX6_columns_6 (⟨rfl, rfl⟩)

set_option maxRecDepth 100000 in
set_option maxHeartbeats 4000000 in
theorem ct_X6_faults (M : Mem) (hZ : zRf (M 39)) (hU : TbR M) (hO : TOk (tsZ (M 39)))   : zCt yX6_faults KX6_faults [zR 38] M (fun zv zM => zv = some (ftA (tsZ (M 39))) ∧ zM = M) := by
  obtain ⟨hs1, hs2, hs3, hs4, hs5, hs6, hs7⟩ := id hZ
  have hw9 := zhw hs1 hs2 hs3 hs4
  refine z_met (by decide) rfl (Nat.le_of_ble_eq_true rfl) (fun X hc he => ?_)
  show zJW X 0 [(0, zR 38)] [] M
  refine z_iconst (pc := 0) hc 0 dX6_faults_0 ?_
  refine z_ist (pc := 1) (lv' := [(1, zI 0), (0, zR 38)]) hc rfl (by decide) dX6_faults_1 ?_
  refine z_iconst (pc := 2) hc 0 dX6_faults_2 ?_
  refine z_ist (pc := 3) (lv' := [(2, zI 0), (1, zI 0), (0, zR 38)]) hc rfl (by decide) dX6_faults_3 ?_
  refine z_for ((M 39 0 * M 39 1).toNat) (fun i4 => [(2, zI ((i4 : Nat) : Int)), (1, zI (zrep (fun (k : Nat) (y : Int) => y + faT (tsZ (M 39)) ((k : Int) / M 39 1) ((k : Int) % M 39 1)) i4 0)), (0, zR 38)]) (fun i4 => M) (by rfl) (by rfl) ?_ (fun i4 hi4 ih4 => ?_)
  · show zJW X 4 [(2, zI ((((M 39 0 * M 39 1).toNat) : Nat) : Int)), (1, zI (zrep (fun (k : Nat) (y : Int) => y + faT (tsZ (M 39)) ((k : Int) / M 39 1) ((k : Int) % M 39 1)) ((M 39 0 * M 39 1).toNat) 0)), (0, zR 38)] [] M
    refine z_ild (pc := 4) hc 0 rfl dX6_faults_4 ?_
    refine z_ald (pc := 5) hc 2 rfl dX6_faults_5 ?_
    refine kc_X6_116 (pc := 6) hc rfl (zfitX (by decide) rfl rfl) rfl (Nat.le_of_ble_eq_true rfl) (ct_X6_tiles M) dX6_faults_6 ?_
    refine z_cge (pc := 9) (tgt := 26) hc (by omega) (by decide) dX6_faults_9 (fun h9 => ?_) (fun h9 => ?_)
    · show zJW X 26 [(2, zI ((((M 39 0 * M 39 1).toNat) : Nat) : Int)), (1, zI (zrep (fun (k : Nat) (y : Int) => y + faT (tsZ (M 39)) ((k : Int) / M 39 1) ((k : Int) % M 39 1)) ((M 39 0 * M 39 1).toNat) 0)), (0, zR 38)] [] M
      refine z_ild (pc := 26) hc 1 rfl dX6_faults_26 ?_
      exact z_iret (pc := 27) hc he rfl dX6_faults_27 (⟨congrArg some (z2_flat (tsZ (M 39)) (fun r c n => n + faT (tsZ (M 39)) r c) 0 (show 0 ≤ M 39 0 by omega) hs3), rfl⟩)
    · exfalso; omega
  · show zJW X 4 [(2, zI ((i4 : Nat) : Int)), (1, zI (zrep (fun (k : Nat) (y : Int) => y + faT (tsZ (M 39)) ((k : Int) / M 39 1) ((k : Int) % M 39 1)) i4 0)), (0, zR 38)] [] M
    refine z_ild (pc := 4) hc 0 rfl dX6_faults_4 ?_
    refine z_ald (pc := 5) hc 2 rfl dX6_faults_5 ?_
    refine kc_X6_116 (pc := 6) hc rfl (zfitX (by decide) rfl rfl) rfl (Nat.le_of_ble_eq_true rfl) (ct_X6_tiles M) dX6_faults_6 ?_
    refine z_cge (pc := 9) (tgt := 26) hc (by omega) (by decide) dX6_faults_9 (fun h9 => ?_) (fun h9 => ?_)
    · exfalso; omega
    · show zJW X 12 [(2, zI ((i4 : Nat) : Int)), (1, zI (zrep (fun (k : Nat) (y : Int) => y + faT (tsZ (M 39)) ((k : Int) / M 39 1) ((k : Int) % M 39 1)) i4 0)), (0, zR 38)] [] M
      refine z_ild (pc := 12) hc 1 rfl dX6_faults_12 ?_
      refine z_ald (pc := 13) hc 2 rfl dX6_faults_13 ?_
      refine z_ild (pc := 14) hc 0 rfl dX6_faults_14 ?_
      refine kc_X6_142 (pc := 15) hc rfl (zfitX (by decide) rfl rfl) rfl (Nat.le_of_ble_eq_true rfl) (ct_X6_faultsAt M (by assumption) (by assumption) (by assumption) ((i4 : Nat) : Int) (by first | assumption | omega)) dX6_faults_15 ?_
      refine z_iadd (pc := 18) hc dX6_faults_18 ?_
      refine z_ist (pc := 19) (lv' := [(1, zI (zrep (fun (k : Nat) (y : Int) => y + faT (tsZ (M 39)) ((k : Int) / M 39 1) ((k : Int) % M 39 1)) i4 0 + (faT (tsZ (M 39)) (((i4 : Nat) : Int) / M 39 1) (((i4 : Nat) : Int) % M 39 1)))), (2, zI ((i4 : Nat) : Int)), (0, zR 38)]) hc rfl (by decide) dX6_faults_19 ?_
      refine z_iinc (pc := 20) (lv' := [(2, zI (((i4 : Nat) : Int) + 1)), (1, zI (zrep (fun (k : Nat) (y : Int) => y + faT (tsZ (M 39)) ((k : Int) / M 39 1) ((k : Int) % M 39 1)) i4 0 + (faT (tsZ (M 39)) (((i4 : Nat) : Int) / M 39 1) (((i4 : Nat) : Int) % M 39 1)))), (0, zR 38)]) hc 1 rfl rfl (by decide) dX6_faults_20 ?_
      refine z_goto (pc := 23) (tgt := 4) hc (by decide) dX6_faults_23 ?_
      exact zJW_eq (by rfl) rfl (by rfl) ih4

theorem faT_bdZ {f : Int → Int} (hO : TOk (tsZ f)) (r c : Int) : 0 ≤ faT (tsZ f) r c ∧ faT (tsZ f) r c ≤ 8 := by
  have hb := hO.2.2.2.2 r c
  unfold faT
  split
  · have hm := mkZ_bd (s := piT (tsZ f) r c) (by omega)
    have hr : 0 ≤ rmT (tsZ f) r c ∧ rmT (tsZ f) r c < 256 := rdZ_any _
    have hx := zxr_bd (a := mkZ (piT (tsZ f) r c)) (b := rmT (tsZ f) r c) (by omega) hr
    have := rdZ_bd hx
    omega
  · omega

set_option maxRecDepth 100000 in
set_option maxHeartbeats 4000000 in
theorem ct_X6_firstFault (M : Mem) (hZ : zRf (M 39)) (hU : TbR M) (hO : TOk (tsZ (M 39)))   : zCt yX6_firstFault KX6_firstFault [zR 38] M (fun zv zM => zv = some (ffA (tsZ (M 39))) ∧ zM = M) := by
  obtain ⟨hs1, hs2, hs3, hs4, hs5, hs6, hs7⟩ := id hZ
  have hw9 := zhw hs1 hs2 hs3 hs4
  refine z_met (by decide) rfl (Nat.le_of_ble_eq_true rfl) (fun X hc he => ?_)
  show zJW X 0 [(0, zR 38)] [] M
  refine z_iconst (pc := 0) hc 0 dX6_firstFault_0 ?_
  refine z_ist (pc := 1) (lv' := [(1, zI 0), (0, zR 38)]) hc rfl (by decide) dX6_firstFault_1 ?_
  refine z_forI ((M 39 0 * M 39 1).toNat) (fun i2 => [(1, zI ((i2 : Nat) : Int)), (0, zR 38)]) (fun i2 => M) (fun i2 => zrep (fun (k : Nat) (x : Int) => if x ≠ -6 then x else if decide (0 < faT (tsZ (M 39)) ((k : Int) / M 39 1) ((k : Int) % M 39 1)) = true then 100 * ((k : Int) / M 39 1) + ((k : Int) % M 39 1) else -6) i2 (-6) = -6) (by rfl) (by rfl) (by rfl) (fun hv2 => ?_) (fun i2 hi2 hv2 ih2 => ?_)
  · show zJW X 2 [(1, zI ((((M 39 0 * M 39 1).toNat) : Nat) : Int)), (0, zR 38)] [] M
    refine z_ild (pc := 2) hc 0 rfl dX6_firstFault_2 ?_
    refine z_ald (pc := 3) hc 1 rfl dX6_firstFault_3 ?_
    refine kc_X6_116 (pc := 4) hc rfl (zfitX (by decide) rfl rfl) rfl (Nat.le_of_ble_eq_true rfl) (ct_X6_tiles M) dX6_firstFault_4 ?_
    refine z_cge (pc := 7) (tgt := 30) hc (by omega) (by decide) dX6_firstFault_7 (fun h7 => ?_) (fun h7 => ?_)
    · show zJW X 30 [(1, zI ((((M 39 0 * M 39 1).toNat) : Nat) : Int)), (0, zR 38)] [] M
      refine z_bipush (pc := 30) hc (-6) (by decide) dX6_firstFault_30 ?_
      exact z_iret (pc := 32) hc he rfl dX6_firstFault_32 (by refine ⟨congrArg some ?_, rfl⟩; rw [ffA, ← zfl_eq (t := (tsZ (M 39))) _ (show 0 ≤ M 39 0 by omega) hs3]; exact hv2.symm)
    · exfalso; omega
  · show zJW X 2 [(1, zI ((i2 : Nat) : Int)), (0, zR 38)] [] M
    have fb := faT_bdZ hO ((i2 : Int) / M 39 1) ((i2 : Int) % M 39 1)
    refine z_ild (pc := 2) hc 0 rfl dX6_firstFault_2 ?_
    refine z_ald (pc := 3) hc 1 rfl dX6_firstFault_3 ?_
    refine kc_X6_116 (pc := 4) hc rfl (zfitX (by decide) rfl rfl) rfl (Nat.le_of_ble_eq_true rfl) (ct_X6_tiles M) dX6_firstFault_4 ?_
    refine z_cge (pc := 7) (tgt := 30) hc (by omega) (by decide) dX6_firstFault_7 (fun h7 => ?_) (fun h7 => ?_)
    · exfalso; omega
    · show zJW X 10 [(1, zI ((i2 : Nat) : Int)), (0, zR 38)] [] M
      refine z_ald (pc := 10) hc 1 rfl dX6_firstFault_10 ?_
      refine z_ild (pc := 11) hc 0 rfl dX6_firstFault_11 ?_
      refine kc_X6_142 (pc := 12) hc rfl (zfitX (by decide) rfl rfl) rfl (Nat.le_of_ble_eq_true rfl) (ct_X6_faultsAt M (by assumption) (by assumption) (by assumption) ((i2 : Nat) : Int) (by first | assumption | omega)) dX6_firstFault_12 ?_
      refine z_ile (pc := 15) (tgt := 24) hc (by omega) (by decide) dX6_firstFault_15 (fun h15 => ?_) (fun h15 => ?_)
      · show zJW X 24 [(1, zI ((i2 : Nat) : Int)), (0, zR 38)] [] M
        refine z_iinc (pc := 24) (lv' := [(1, zI (((i2 : Nat) : Int) + 1)), (0, zR 38)]) hc 0 rfl rfl (by decide) dX6_firstFault_24 ?_
        refine z_goto (pc := 27) (tgt := 2) hc (by decide) dX6_firstFault_27 ?_
        exact zJW_eq (by rfl) rfl (by rfl) (ih2 (by rw [zrep_succ, hv2]; simp; omega))
      · show zJW X 18 [(1, zI ((i2 : Nat) : Int)), (0, zR 38)] [] M
        refine z_ald (pc := 18) hc 1 rfl dX6_firstFault_18 ?_
        refine z_ild (pc := 19) hc 0 rfl dX6_firstFault_19 ?_
        refine kc_X6_148 (pc := 20) hc rfl (zfitX (by decide) rfl rfl) rfl (Nat.le_of_ble_eq_true rfl) (ct_X6_told M (by assumption) ((i2 : Nat) : Int) (by first | assumption | omega)) dX6_firstFault_20 ?_
        exact z_iret (pc := 23) hc he rfl dX6_firstFault_23 (by refine ⟨congrArg some ?_, rfl⟩; rw [ffA, ← zfl_eq (t := (tsZ (M 39))) _ (show 0 ≤ M 39 0 by omega) hs3]; exact (zfl_at (t := (tsZ (M 39))) hi2 hs3 hv2 (decide_eq_true h15)).symm)

set_option maxRecDepth 100000 in
set_option maxHeartbeats 4000000 in
theorem ct_X6_maskOf (M : Mem) (hZ : zRf (M 39)) (hU : TbR M) (hO : TOk (tsZ (M 39))) (s : Int) (hb_s : -2147483648 ≤ s ∧ s < 2147483648)  : zCt yX6_maskOf KX6_maskOf [zR 38, zI s] M (fun zv zM => zv = some (moA s) ∧ zM = M) := by
  obtain ⟨hs1, hs2, hs3, hs4, hs5, hs6, hs7⟩ := id hZ
  have hw9 := zhw hs1 hs2 hs3 hs4
  refine z_met (by decide) rfl (Nat.le_of_ble_eq_true rfl) (fun X hc he => ?_)
  show zJW X 0 [(0, zR 38), (1, zI s)] [] M
  refine z_ild (pc := 0) hc 1 rfl dX6_maskOf_0 ?_
  refine kc_X6_145 (pc := 1) hc rfl (zfit0 (by decide) rfl rfl) (Nat.le_of_ble_eq_true rfl) (ct_X6_isShape M s (by omega)) dX6_maskOf_1 ?_
  refine z_beq (pc := 4) (tgt := 16) hc (by decide) dX6_maskOf_4 (fun h4 => ?_) (fun h4 => ?_)
  · show zJW X 16 [(0, zR 38), (1, zI s)] [] M
    refine z_iconst (pc := 16) hc (-1) dX6_maskOf_16 ?_
    exact z_iret (pc := 17) hc he rfl dX6_maskOf_17 (by refine ⟨congrArg some ?_, rfl⟩; first | exact (hus.trans (if_pos (by omega)).symm) | (rw [moA]; have h4 := of_decide_eq_false h4; exact (if_neg (by omega)).symm))
  · show zJW X 7 [(0, zR 38), (1, zI s)] [] M
    have h4 := of_decide_eq_true h4
    have hus := hU.1 s h4.1 (by omega)
    refine z_ald (pc := 7) hc 0 rfl dX6_maskOf_7 ?_
    refine fg_X6_23 (pc := 8) hc rfl rfl dX6_maskOf_8 ?_
    refine z_ild (pc := 11) hc 1 rfl dX6_maskOf_11 ?_
    refine z_iald (pc := 12) hc rfl rfl rfl (by decide) (by omega) dX6_maskOf_12 ?_
    refine z_goto (pc := 13) (tgt := 17) hc (by decide) dX6_maskOf_13 ?_
    exact z_iret (pc := 17) hc he rfl dX6_maskOf_17 (by refine ⟨congrArg some ?_, rfl⟩; first | exact (hus.trans (if_pos (by omega)).symm) | (rw [moA]; have h4 := of_decide_eq_false h4; exact (if_neg (by omega)).symm))

set_option maxRecDepth 100000 in
set_option maxHeartbeats 4000000 in
theorem ct_X6_shapeOf (M : Mem) (hZ : zRf (M 39)) (hU : TbR M) (hO : TOk (tsZ (M 39))) (m : Int) (hb_m : -2147483648 ≤ m ∧ m < 2147483648)  : zCt yX6_shapeOf KX6_shapeOf [zR 38, zI m] M (fun zv zM => zv = some (shA m) ∧ zM = M) := by
  obtain ⟨hs1, hs2, hs3, hs4, hs5, hs6, hs7⟩ := id hZ
  have hw9 := zhw hs1 hs2 hs3 hs4
  refine z_met (by decide) rfl (Nat.le_of_ble_eq_true rfl) (fun X hc he => ?_)
  show zJW X 0 [(0, zR 38), (1, zI m)] [] M
  refine z_ild (pc := 0) hc 1 rfl dX6_shapeOf_0 ?_
  refine z_iconst (pc := 1) hc 0 dX6_shapeOf_1 ?_
  refine z_sipush (pc := 2) hc 255 (by decide) dX6_shapeOf_2 ?_
  refine kc_X6_61 (pc := 5) hc rfl (zfit0 (by decide) rfl rfl) (Nat.le_of_ble_eq_true rfl) (ct_X6_in M m 0 255 (by omega) (by omega) (by omega)) dX6_shapeOf_5 ?_
  refine z_beq (pc := 8) (tgt := 20) hc (by decide) dX6_shapeOf_8 (fun h8 => ?_) (fun h8 => ?_)
  · show zJW X 20 [(0, zR 38), (1, zI m)] [] M
    refine z_bipush (pc := 20) hc (-2) (by decide) dX6_shapeOf_20 ?_
    exact z_iret (pc := 22) hc he rfl dX6_shapeOf_22 (by first | (have h6 := of_decide_eq_true h8; refine ⟨congrArg some ?_, rfl⟩; exact (hU.2 m (by omega) (by omega)).trans (if_pos (by omega)).symm) | (have h6 := of_decide_eq_false h8; refine ⟨congrArg some ?_, rfl⟩; exact (if_neg (by omega)).symm))
  · show zJW X 11 [(0, zR 38), (1, zI m)] [] M
    have h6b := of_decide_eq_true h8
    refine z_ald (pc := 11) hc 0 rfl dX6_shapeOf_11 ?_
    refine fg_X6_26 (pc := 12) hc rfl rfl dX6_shapeOf_12 ?_
    refine z_ild (pc := 15) hc 1 rfl dX6_shapeOf_15 ?_
    refine z_iald (pc := 16) hc rfl rfl rfl (by decide) (by omega) dX6_shapeOf_16 ?_
    refine z_goto (pc := 17) (tgt := 22) hc (by decide) dX6_shapeOf_17 ?_
    exact z_iret (pc := 22) hc he rfl dX6_shapeOf_22 (by first | (have h6 := of_decide_eq_true h8; refine ⟨congrArg some ?_, rfl⟩; exact (hU.2 m (by omega) (by omega)).trans (if_pos (by omega)).symm) | (have h6 := of_decide_eq_false h8; refine ⟨congrArg some ?_, rfl⟩; exact (if_neg (by omega)).symm))

set_option maxRecDepth 100000 in
set_option maxHeartbeats 4000000 in
theorem ct_X6_turnedBy (M : Mem) (hU : TbR M) (s q : Int) (hs : 0 ≤ s ∧ s < 47) (hq : 0 ≤ q ∧ q ≤ 3) : zCt yX6_turnedBy KX6_turnedBy [zR 38, zI s, zI q] M (fun zv zM => zv = some (tuZ s q) ∧ zM = M) := by
  have tb := rtZ_bd (mkZ s) (2 * q)
  refine z_met (by decide) rfl (Nat.le_of_ble_eq_true rfl) (fun X hc he => ?_)
  show zJW X 0 [(0, zR 38), (1, zI s), (2, zI q)] [] M
  refine z_ald (pc := 0) hc 0 rfl dX6_turnedBy_0 ?_
  refine fg_X6_23 (pc := 1) hc rfl rfl dX6_turnedBy_1 ?_
  refine z_ild (pc := 4) hc 1 rfl dX6_turnedBy_4 ?_
  refine z_iald (pc := 5) hc rfl rfl rfl (by decide) (by omega) dX6_turnedBy_5 ?_
  rw [hU.1 s hs.1 hs.2]
  refine z_iconst (pc := 6) hc 2 dX6_turnedBy_6 ?_
  refine z_ild (pc := 7) hc 2 rfl dX6_turnedBy_7 ?_
  refine z_imul (pc := 8) hc dX6_turnedBy_8 ?_
  refine z_ishl (pc := 9) hc dX6_turnedBy_9 ?_
  refine z_ist (pc := 10) (lv' := [(3, zI (zsl (mkZ s) (2 * q))), (0, zR 38), (1, zI s), (2, zI q)]) hc rfl (by decide) dX6_turnedBy_10 ?_
  refine z_ald (pc := 11) hc 1 rfl dX6_turnedBy_11 ?_
  refine fg_X6_26 (pc := 12) hc rfl rfl dX6_turnedBy_12 ?_
  refine z_ild (pc := 15) hc 0 rfl dX6_turnedBy_15 ?_
  refine z_sipush (pc := 16) hc 255 (by decide) dX6_turnedBy_16 ?_
  refine z_iand (pc := 19) hc dX6_turnedBy_19 ?_
  refine z_ild (pc := 20) hc 0 rfl dX6_turnedBy_20 ?_
  refine z_bipush (pc := 21) hc 8 (by decide) dX6_turnedBy_21 ?_
  refine z_ishr (pc := 23) hc dX6_turnedBy_23 ?_
  refine z_ior (pc := 24) hc dX6_turnedBy_24 ?_
  rw [tuR_eq hs hq]
  refine z_iald (pc := 25) hc rfl rfl rfl (by decide) (by omega) dX6_turnedBy_25 ?_
  exact z_iret (pc := 26) hc he rfl dX6_turnedBy_26 (⟨congrArg some (hU.2 _ tb.1 tb.2), rfl⟩)

set_option maxRecDepth 100000 in
set_option maxHeartbeats 4000000 in
theorem ct_X6_turned (M : Mem) (hZ : zRf (M 39)) (hU : TbR M) (hO : TOk (tsZ (M 39))) (s : Int) (hb_s : -2147483648 ≤ s ∧ s < 2147483648) (k : Int) (hb_k : -2147483648 ≤ k ∧ k < 2147483648)  : zCt yX6_turned KX6_turned [zR 38, zI s, zI k] M (fun zv zM => zv = some (tuA s k) ∧ zM = M) := by
  obtain ⟨hs1, hs2, hs3, hs4, hs5, hs6, hs7⟩ := id hZ
  have hw9 := zhw hs1 hs2 hs3 hs4
  refine z_met (by decide) rfl (Nat.le_of_ble_eq_true rfl) (fun X hc he => ?_)
  show zJW X 0 [(0, zR 38), (1, zI s), (2, zI k)] [] M
  refine z_ild (pc := 0) hc 1 rfl dX6_turned_0 ?_
  refine kc_X6_145 (pc := 1) hc rfl (zfit0 (by decide) rfl rfl) (Nat.le_of_ble_eq_true rfl) (ct_X6_isShape M s (by omega)) dX6_turned_1 ?_
  refine z_bne (pc := 4) (tgt := 9) hc (by decide) dX6_turned_4 (fun h4 => ?_) (fun h4 => ?_)
  · show zJW X 9 [(0, zR 38), (1, zI s), (2, zI k)] [] M
    have h4 := of_decide_eq_true h4
    refine z_ild (pc := 9) hc 2 rfl dX6_turned_9 ?_
    refine z_iconst (pc := 10) hc 0 dX6_turned_10 ?_
    refine z_iconst (pc := 11) hc 3 dX6_turned_11 ?_
    refine kc_X6_61 (pc := 12) hc rfl (zfit0 (by decide) rfl rfl) (Nat.le_of_ble_eq_true rfl) (ct_X6_in M k 0 3 (by omega) (by omega) (by omega)) dX6_turned_12 ?_
    refine z_beq (pc := 15) (tgt := 27) hc (by decide) dX6_turned_15 (fun h15 => ?_) (fun h15 => ?_)
    · show zJW X 27 [(0, zR 38), (1, zI s), (2, zI k)] [] M
      refine z_bipush (pc := 27) hc (-2) (by decide) dX6_turned_27 ?_
      exact z_iret (pc := 29) hc he rfl dX6_turned_29 (by refine ⟨congrArg some ?_, rfl⟩; rw [tuA, if_pos (show 0 ≤ s ∧ s < 47 by omega)]; first | (have h15 := of_decide_eq_true h15; exact (if_pos (by omega)).symm) | (have h15 := of_decide_eq_false h15; exact (if_neg (by omega)).symm))
    · show zJW X 18 [(0, zR 38), (1, zI s), (2, zI k)] [] M
      have h15b := of_decide_eq_true h15
      refine z_ald (pc := 18) hc 0 rfl dX6_turned_18 ?_
      refine z_ild (pc := 19) hc 1 rfl dX6_turned_19 ?_
      refine z_ild (pc := 20) hc 2 rfl dX6_turned_20 ?_
      refine kc_X6_136 (pc := 21) hc rfl (zfitX (by decide) rfl rfl) rfl (Nat.le_of_ble_eq_true rfl) (ct_X6_turnedBy M (by assumption) s k (by omega) (by omega)) dX6_turned_21 ?_
      refine z_goto (pc := 24) (tgt := 29) hc (by decide) dX6_turned_24 ?_
      exact z_iret (pc := 29) hc he rfl dX6_turned_29 (by refine ⟨congrArg some ?_, rfl⟩; rw [tuA, if_pos (show 0 ≤ s ∧ s < 47 by omega)]; first | (have h15 := of_decide_eq_true h15; exact (if_pos (by omega)).symm) | (have h15 := of_decide_eq_false h15; exact (if_neg (by omega)).symm))
  · show zJW X 7 [(0, zR 38), (1, zI s), (2, zI k)] [] M
    refine z_iconst (pc := 7) hc (-1) dX6_turned_7 ?_
    exact z_iret (pc := 8) hc he rfl dX6_turned_8 (by have h4 := of_decide_eq_false h4; refine ⟨congrArg some ?_, rfl⟩; exact (if_neg (by omega)).symm)

set_option maxRecDepth 100000 in
set_option maxHeartbeats 4000000 in
theorem ct_X6_mirrored (M : Mem) (hZ : zRf (M 39)) (hU : TbR M) (hO : TOk (tsZ (M 39))) (s : Int) (hb_s : -2147483648 ≤ s ∧ s < 2147483648)  : zCt yX6_mirrored KX6_mirrored [zR 38, zI s] M (fun zv zM => zv = some (miA s) ∧ zM = M) := by
  obtain ⟨hs1, hs2, hs3, hs4, hs5, hs6, hs7⟩ := id hZ
  have hw9 := zhw hs1 hs2 hs3 hs4
  refine z_met (by decide) rfl (Nat.le_of_ble_eq_true rfl) (fun X hc he => ?_)
  show zJW X 0 [(0, zR 38), (1, zI s)] [] M
  refine z_ild (pc := 0) hc 1 rfl dX6_mirrored_0 ?_
  refine kc_X6_145 (pc := 1) hc rfl (zfit0 (by decide) rfl rfl) (Nat.le_of_ble_eq_true rfl) (ct_X6_isShape M s (by omega)) dX6_mirrored_1 ?_
  refine z_bne (pc := 4) (tgt := 9) hc (by decide) dX6_mirrored_4 (fun h4 => ?_) (fun h4 => ?_)
  · show zJW X 9 [(0, zR 38), (1, zI s)] [] M
    have h4 := of_decide_eq_true h4
    have h4s : 0 ≤ s ∧ s < 47 := by omega
    have mb := miX_bd h4s
    refine z_iconst (pc := 9) hc 0 dX6_mirrored_9 ?_
    refine z_ist (pc := 10) (lv' := [(2, zI 0), (0, zR 38), (1, zI s)]) hc rfl (by decide) dX6_mirrored_10 ?_
    refine z_iconst (pc := 11) hc 0 dX6_mirrored_11 ?_
    refine z_ist (pc := 12) (lv' := [(3, zI 0), (2, zI 0), (0, zR 38), (1, zI s)]) hc rfl (by decide) dX6_mirrored_12 ?_
    refine z_for 8 (fun i13 => [(3, zI ((i13 : Nat) : Int)), (2, zI (zrep (fun (d : Nat) (x : Int) => zor x (zsl (biZ (mkZ s) (8 - d)) d)) i13 0)), (0, zR 38), (1, zI s)]) (fun i13 => M) (by rfl) (by rfl) ?_ (fun i13 hi13 ih13 => ?_)
    · show zJW X 13 [(3, zI 8), (2, zI (zrep (fun (d : Nat) (x : Int) => zor x (zsl (biZ (mkZ s) (8 - d)) d)) 8 0)), (0, zR 38), (1, zI s)] [] M
      refine z_ild (pc := 13) hc 0 rfl dX6_mirrored_13 ?_
      refine z_bipush (pc := 14) hc 8 (by decide) dX6_mirrored_14 ?_
      refine z_cge (pc := 16) (tgt := 43) hc (by omega) (by decide) dX6_mirrored_16 (fun h16 => ?_) (fun h16 => ?_)
      · show zJW X 43 [(3, zI 8), (2, zI (zrep (fun (d : Nat) (x : Int) => zor x (zsl (biZ (mkZ s) (8 - d)) d)) 8 0)), (0, zR 38), (1, zI s)] [] M
        rw [show zrep (fun (d : Nat) (x : Int) => zor x (zsl (biZ (mkZ s) (8 - d)) d)) 8 0 = miX (mkZ s) from miR_eq h4s]
        refine z_ald (pc := 43) hc 2 rfl dX6_mirrored_43 ?_
        refine fg_X6_26 (pc := 44) hc rfl rfl dX6_mirrored_44 ?_
        refine z_ild (pc := 47) hc 1 rfl dX6_mirrored_47 ?_
        refine z_iald (pc := 48) hc rfl rfl rfl (by decide) (by omega) dX6_mirrored_48 ?_
        exact z_iret (pc := 49) hc he rfl dX6_mirrored_49 (⟨congrArg some ((hU.2 _ mb.1 mb.2).trans (if_pos h4s).symm), rfl⟩)
      · exfalso; omega
    · show zJW X 13 [(3, zI ((i13 : Nat) : Int)), (2, zI (zrep (fun (d : Nat) (x : Int) => zor x (zsl (biZ (mkZ s) (8 - d)) d)) i13 0)), (0, zR 38), (1, zI s)] [] M
      refine z_ild (pc := 13) hc 0 rfl dX6_mirrored_13 ?_
      refine z_bipush (pc := 14) hc 8 (by decide) dX6_mirrored_14 ?_
      refine z_cge (pc := 16) (tgt := 43) hc (by omega) (by decide) dX6_mirrored_16 (fun h16 => ?_) (fun h16 => ?_)
      · exfalso; omega
      · show zJW X 19 [(3, zI ((i13 : Nat) : Int)), (2, zI (zrep (fun (d : Nat) (x : Int) => zor x (zsl (biZ (mkZ s) (8 - d)) d)) i13 0)), (0, zR 38), (1, zI s)] [] M
        refine z_ild (pc := 19) hc 1 rfl dX6_mirrored_19 ?_
        refine z_ald (pc := 20) hc 2 rfl dX6_mirrored_20 ?_
        refine fg_X6_23 (pc := 21) hc rfl rfl dX6_mirrored_21 ?_
        refine z_ild (pc := 24) hc 3 rfl dX6_mirrored_24 ?_
        skip
        refine z_iald (pc := 25) hc rfl rfl rfl (by decide) (by omega) dX6_mirrored_25 ?_
        rw [hU.1 s h4s.1 h4s.2]
        refine z_bipush (pc := 26) hc 8 (by decide) dX6_mirrored_26 ?_
        refine z_ild (pc := 28) hc 0 rfl dX6_mirrored_28 ?_
        refine z_isub (pc := 29) hc dX6_mirrored_29 ?_
        refine kc_X6_80 (pc := 30) hc rfl (zfit0 (by decide) rfl rfl) (Nat.le_of_ble_eq_true rfl) (ct_X6_bit M (mkZ s) (8 - ((i13 : Nat) : Int))) dX6_mirrored_30 ?_
        refine z_ild (pc := 33) hc 0 rfl dX6_mirrored_33 ?_
        refine z_ishl (pc := 34) hc dX6_mirrored_34 ?_
        refine z_ior (pc := 35) hc dX6_mirrored_35 ?_
        refine z_ist (pc := 36) (lv' := [(2, zI (zor (zrep (fun (d : Nat) (x : Int) => zor x (zsl (biZ (mkZ s) (8 - d)) d)) i13 0) (zsl (biZ (mkZ s) (8 - ((i13 : Nat) : Int))) ((i13 : Nat) : Int)))), (3, zI ((i13 : Nat) : Int)), (0, zR 38), (1, zI s)]) hc rfl (by decide) dX6_mirrored_36 ?_
        refine z_iinc (pc := 37) (lv' := [(3, zI (((i13 : Nat) : Int) + 1)), (2, zI (zor (zrep (fun (d : Nat) (x : Int) => zor x (zsl (biZ (mkZ s) (8 - d)) d)) i13 0) (zsl (biZ (mkZ s) (8 - ((i13 : Nat) : Int))) ((i13 : Nat) : Int)))), (0, zR 38), (1, zI s)]) hc 1 rfl rfl (by decide) dX6_mirrored_37 ?_
        refine z_goto (pc := 40) (tgt := 13) hc (by decide) dX6_mirrored_40 ?_
        exact zJW_eq (by rfl) rfl (by rfl) ih13
  · show zJW X 7 [(0, zR 38), (1, zI s)] [] M
    refine z_iconst (pc := 7) hc (-1) dX6_mirrored_7 ?_
    exact z_iret (pc := 8) hc he rfl dX6_mirrored_8 (by have h4 := of_decide_eq_false h4; refine ⟨congrArg some ?_, rfl⟩; exact (if_neg (by omega)).symm)

theorem saT_bdZ {f : Int → Int} (hO : TOk (tsZ f)) (r c : Int) : -6 ≤ saT (tsZ f) r c ∧ saT (tsZ f) r c < 47 := by
  have hb := hO.2.2.2.2 r c
  have hr := rdZ_bd (arT_bd (tsZ f) r c)
  unfold saT
  split
  · split
    · omega
    · unfold rsT rmT; omega
  · omega

set_option maxRecDepth 100000 in
set_option maxHeartbeats 4000000 in
theorem ct_X6_counted (M : Mem) (hZ : zRf (M 39)) (hU : TbR M) (hO : TOk (tsZ (M 39)))  (s : Int) (hs : 0 ≤ s ∧ s < 47)  : zCt yX6_counted KX6_counted [zR 38, zI s] M (fun zv zM => zv = some (ctT (tsZ (M 39)) s) ∧ zM = M) := by
  obtain ⟨hs1, hs2, hs3, hs4, hs5, hs6, hs7⟩ := id hZ
  have hw9 := zhw hs1 hs2 hs3 hs4
  refine z_met (by decide) rfl (Nat.le_of_ble_eq_true rfl) (fun X hc he => ?_)
  show zJW X 0 [(0, zR 38), (1, zI s)] [] M
  refine z_iconst (pc := 0) hc 0 dX6_counted_0 ?_
  refine z_ist (pc := 1) (lv' := [(2, zI 0), (0, zR 38), (1, zI s)]) hc rfl (by decide) dX6_counted_1 ?_
  refine z_iconst (pc := 2) hc 0 dX6_counted_2 ?_
  refine z_ist (pc := 3) (lv' := [(3, zI 0), (2, zI 0), (0, zR 38), (1, zI s)]) hc rfl (by decide) dX6_counted_3 ?_
  refine z_for ((M 39 0 * M 39 1).toNat) (fun i4 => [(3, zI ((i4 : Nat) : Int)), (2, zI (zrep (fun (k : Nat) (y : Int) => y + zbz (decide (saT (tsZ (M 39)) ((k : Int) / M 39 1) ((k : Int) % M 39 1) = s))) i4 0)), (0, zR 38), (1, zI s)]) (fun i4 => M) (by rfl) (by rfl) ?_ (fun i4 hi4 ih4 => ?_)
  · show zJW X 4 [(3, zI ((((M 39 0 * M 39 1).toNat) : Nat) : Int)), (2, zI (zrep (fun (k : Nat) (y : Int) => y + zbz (decide (saT (tsZ (M 39)) ((k : Int) / M 39 1) ((k : Int) % M 39 1) = s))) ((M 39 0 * M 39 1).toNat) 0)), (0, zR 38), (1, zI s)] [] M
    refine z_ild (pc := 4) hc 0 rfl dX6_counted_4 ?_
    refine z_ald (pc := 5) hc 2 rfl dX6_counted_5 ?_
    refine kc_X6_116 (pc := 6) hc rfl (zfitX (by decide) rfl rfl) rfl (Nat.le_of_ble_eq_true rfl) (ct_X6_tiles M) dX6_counted_6 ?_
    refine z_cge (pc := 9) (tgt := 35) hc (by omega) (by decide) dX6_counted_9 (fun h9 => ?_) (fun h9 => ?_)
    · show zJW X 35 [(3, zI ((((M 39 0 * M 39 1).toNat) : Nat) : Int)), (2, zI (zrep (fun (k : Nat) (y : Int) => y + zbz (decide (saT (tsZ (M 39)) ((k : Int) / M 39 1) ((k : Int) % M 39 1) = s))) ((M 39 0 * M 39 1).toNat) 0)), (0, zR 38), (1, zI s)] [] M
      refine z_ild (pc := 35) hc 1 rfl dX6_counted_35 ?_
      exact z_iret (pc := 36) hc he rfl dX6_counted_36 (⟨congrArg some (z2_flat (tsZ (M 39)) (fun r c n => n + zbz (decide (saT (tsZ (M 39)) r c = s))) 0 (show 0 ≤ M 39 0 by omega) hs3), rfl⟩)
    · exfalso; omega
  · show zJW X 4 [(3, zI ((i4 : Nat) : Int)), (2, zI (zrep (fun (k : Nat) (y : Int) => y + zbz (decide (saT (tsZ (M 39)) ((k : Int) / M 39 1) ((k : Int) % M 39 1) = s))) i4 0)), (0, zR 38), (1, zI s)] [] M
    have sb := saT_bdZ hO ((i4 : Int) / M 39 1) ((i4 : Int) % M 39 1)
    refine z_ild (pc := 4) hc 0 rfl dX6_counted_4 ?_
    refine z_ald (pc := 5) hc 2 rfl dX6_counted_5 ?_
    refine kc_X6_116 (pc := 6) hc rfl (zfitX (by decide) rfl rfl) rfl (Nat.le_of_ble_eq_true rfl) (ct_X6_tiles M) dX6_counted_6 ?_
    refine z_cge (pc := 9) (tgt := 35) hc (by omega) (by decide) dX6_counted_9 (fun h9 => ?_) (fun h9 => ?_)
    · exfalso; omega
    · show zJW X 12 [(3, zI ((i4 : Nat) : Int)), (2, zI (zrep (fun (k : Nat) (y : Int) => y + zbz (decide (saT (tsZ (M 39)) ((k : Int) / M 39 1) ((k : Int) % M 39 1) = s))) i4 0)), (0, zR 38), (1, zI s)] [] M
      refine z_ild (pc := 12) hc 1 rfl dX6_counted_12 ?_
      refine z_ald (pc := 13) hc 2 rfl dX6_counted_13 ?_
      refine z_ild (pc := 14) hc 0 rfl dX6_counted_14 ?_
      refine kc_X6_110 (pc := 15) hc rfl (zfitX (by decide) rfl rfl) rfl (Nat.le_of_ble_eq_true rfl) (ct_X6_shapeAt M (by assumption) (by assumption) ((i4 : Nat) : Int) (by first | assumption | omega)) dX6_counted_15 ?_
      refine z_ild (pc := 18) hc 3 rfl dX6_counted_18 ?_
      refine z_cne (pc := 19) (tgt := 26) hc (by omega) (by decide) dX6_counted_19 (fun h19 => ?_) (fun h19 => ?_)
      · show zJW X 26 [(3, zI ((i4 : Nat) : Int)), (2, zI (zrep (fun (k : Nat) (y : Int) => y + zbz (decide (saT (tsZ (M 39)) ((k : Int) / M 39 1) ((k : Int) % M 39 1) = s))) i4 0)), (0, zR 38), (1, zI s)] [zI (zrep (fun (k : Nat) (y : Int) => y + zbz (decide (saT (tsZ (M 39)) ((k : Int) / M 39 1) ((k : Int) % M 39 1) = s))) i4 0)] M
        refine z_iconst (pc := 26) hc 0 dX6_counted_26 ?_
        refine z_iadd (pc := 27) hc dX6_counted_27 ?_
        refine z_ist (pc := 28) (lv' := [(2, zI (zrep (fun (k : Nat) (y : Int) => y + zbz (decide (saT (tsZ (M 39)) ((k : Int) / M 39 1) ((k : Int) % M 39 1) = s))) i4 0 + 0)), (3, zI ((i4 : Nat) : Int)), (0, zR 38), (1, zI s)]) hc rfl (by decide) dX6_counted_28 ?_
        refine z_iinc (pc := 29) (lv' := [(3, zI (((i4 : Nat) : Int) + 1)), (2, zI (zrep (fun (k : Nat) (y : Int) => y + zbz (decide (saT (tsZ (M 39)) ((k : Int) / M 39 1) ((k : Int) % M 39 1) = s))) i4 0 + 0)), (0, zR 38), (1, zI s)]) hc 1 rfl rfl (by decide) dX6_counted_29 ?_
        refine z_goto (pc := 32) (tgt := 4) hc (by decide) dX6_counted_32 ?_
        exact zJW_eq (by first | (simp only [zrep_succ, decide_eq_true h19, zbz_t, Int.natCast_add, Int.natCast_one]; done) | simp only [zrep_succ, decide_eq_false h19, zbz_f, Int.add_zero, Int.natCast_add, Int.natCast_one]) rfl (by rfl) ih4
      · show zJW X 22 [(3, zI ((i4 : Nat) : Int)), (2, zI (zrep (fun (k : Nat) (y : Int) => y + zbz (decide (saT (tsZ (M 39)) ((k : Int) / M 39 1) ((k : Int) % M 39 1) = s))) i4 0)), (0, zR 38), (1, zI s)] [zI (zrep (fun (k : Nat) (y : Int) => y + zbz (decide (saT (tsZ (M 39)) ((k : Int) / M 39 1) ((k : Int) % M 39 1) = s))) i4 0)] M
        refine z_iconst (pc := 22) hc 1 dX6_counted_22 ?_
        refine z_goto (pc := 23) (tgt := 27) hc (by decide) dX6_counted_23 ?_
        refine z_iadd (pc := 27) hc dX6_counted_27 ?_
        refine z_ist (pc := 28) (lv' := [(2, zI (zrep (fun (k : Nat) (y : Int) => y + zbz (decide (saT (tsZ (M 39)) ((k : Int) / M 39 1) ((k : Int) % M 39 1) = s))) i4 0 + 1)), (3, zI ((i4 : Nat) : Int)), (0, zR 38), (1, zI s)]) hc rfl (by decide) dX6_counted_28 ?_
        refine z_iinc (pc := 29) (lv' := [(3, zI (((i4 : Nat) : Int) + 1)), (2, zI (zrep (fun (k : Nat) (y : Int) => y + zbz (decide (saT (tsZ (M 39)) ((k : Int) / M 39 1) ((k : Int) % M 39 1) = s))) i4 0 + 1)), (0, zR 38), (1, zI s)]) hc 1 rfl rfl (by decide) dX6_counted_29 ?_
        refine z_goto (pc := 32) (tgt := 4) hc (by decide) dX6_counted_32 ?_
        exact zJW_eq (by first | (simp only [zrep_succ, decide_eq_true h19, zbz_t, Int.natCast_add, Int.natCast_one]; done) | simp only [zrep_succ, decide_eq_false h19, zbz_f, Int.add_zero, Int.natCast_add, Int.natCast_one]) rfl (by rfl) ih4

set_option maxRecDepth 100000 in
set_option maxHeartbeats 4000000 in
theorem ct_X6_count (M : Mem) (hZ : zRf (M 39)) (hU : TbR M) (hO : TOk (tsZ (M 39))) (s : Int) (hb_s : -2147483648 ≤ s ∧ s < 2147483648)  : zCt yX6_count KX6_count [zR 38, zI s] M (fun zv zM => zv = some (cnA (tsZ (M 39)) s) ∧ zM = M) := by
  obtain ⟨hs1, hs2, hs3, hs4, hs5, hs6, hs7⟩ := id hZ
  have hw9 := zhw hs1 hs2 hs3 hs4
  refine z_met (by decide) rfl (Nat.le_of_ble_eq_true rfl) (fun X hc he => ?_)
  show zJW X 0 [(0, zR 38), (1, zI s)] [] M
  refine z_ild (pc := 0) hc 1 rfl dX6_count_0 ?_
  refine kc_X6_145 (pc := 1) hc rfl (zfit0 (by decide) rfl rfl) (Nat.le_of_ble_eq_true rfl) (ct_X6_isShape M s (by omega)) dX6_count_1 ?_
  refine z_beq (pc := 4) (tgt := 15) hc (by decide) dX6_count_4 (fun h4 => ?_) (fun h4 => ?_)
  · show zJW X 15 [(0, zR 38), (1, zI s)] [] M
    refine z_iconst (pc := 15) hc (-1) dX6_count_15 ?_
    exact z_iret (pc := 16) hc he rfl dX6_count_16 (by refine ⟨congrArg some ?_, rfl⟩; first | (have h4 := of_decide_eq_true h4; exact (if_pos (by omega)).symm) | (have h4 := of_decide_eq_false h4; exact (if_neg (by omega)).symm))
  · show zJW X 7 [(0, zR 38), (1, zI s)] [] M
    have h4b := of_decide_eq_true h4
    refine z_ald (pc := 7) hc 0 rfl dX6_count_7 ?_
    refine z_ild (pc := 8) hc 1 rfl dX6_count_8 ?_
    refine kc_X6_151 (pc := 9) hc rfl (zfitX (by decide) rfl rfl) rfl (Nat.le_of_ble_eq_true rfl) (ct_X6_counted M (by assumption) (by assumption) (by assumption) s (by omega)) dX6_count_9 ?_
    refine z_goto (pc := 12) (tgt := 16) hc (by decide) dX6_count_12 ?_
    exact z_iret (pc := 16) hc he rfl dX6_count_16 (by refine ⟨congrArg some ?_, rfl⟩; first | (have h4 := of_decide_eq_true h4; exact (if_pos (by omega)).symm) | (have h4 := of_decide_eq_false h4; exact (if_neg (by omega)).symm))

set_option maxRecDepth 100000 in
set_option maxHeartbeats 4000000 in
theorem ct_X6_shapes (M : Mem) (hZ : zRf (M 39)) (hU : TbR M) (hO : TOk (tsZ (M 39)))   : zCt yX6_shapes KX6_shapes [zR 38] M (fun zv zM => zv = some (spA (tsZ (M 39))) ∧ zM = M) := by
  obtain ⟨hs1, hs2, hs3, hs4, hs5, hs6, hs7⟩ := id hZ
  have hw9 := zhw hs1 hs2 hs3 hs4
  refine z_met (by decide) rfl (Nat.le_of_ble_eq_true rfl) (fun X hc he => ?_)
  show zJW X 0 [(0, zR 38)] [] M
  refine z_iconst (pc := 0) hc 0 dX6_shapes_0 ?_
  refine z_ist (pc := 1) (lv' := [(1, zI 0), (0, zR 38)]) hc rfl (by decide) dX6_shapes_1 ?_
  refine z_iconst (pc := 2) hc 0 dX6_shapes_2 ?_
  refine z_ist (pc := 3) (lv' := [(2, zI 0), (1, zI 0), (0, zR 38)]) hc rfl (by decide) dX6_shapes_3 ?_
  refine z_for 47 (fun i4 => [(2, zI ((i4 : Nat) : Int)), (1, zI (zrep (fun (s : Nat) (n : Int) => n + (if 0 < ctT (tsZ (M 39)) s then 1 else 0)) i4 0)), (0, zR 38)]) (fun i4 => M) (by rfl) (by rfl) ?_ (fun i4 hi4 ih4 => ?_)
  · show zJW X 4 [(2, zI 47), (1, zI (zrep (fun (s : Nat) (n : Int) => n + (if 0 < ctT (tsZ (M 39)) s then 1 else 0)) 47 0)), (0, zR 38)] [] M
    refine z_ild (pc := 4) hc 0 rfl dX6_shapes_4 ?_
    refine z_bipush (pc := 5) hc 47 (by decide) dX6_shapes_5 ?_
    refine z_cge (pc := 7) (tgt := 32) hc (by omega) (by decide) dX6_shapes_7 (fun h7 => ?_) (fun h7 => ?_)
    · show zJW X 32 [(2, zI 47), (1, zI (zrep (fun (s : Nat) (n : Int) => n + (if 0 < ctT (tsZ (M 39)) s then 1 else 0)) 47 0)), (0, zR 38)] [] M
      refine z_ild (pc := 32) hc 1 rfl dX6_shapes_32 ?_
      exact z_iret (pc := 33) hc he rfl dX6_shapes_33 (⟨rfl, rfl⟩)
    · exfalso; omega
  · show zJW X 4 [(2, zI ((i4 : Nat) : Int)), (1, zI (zrep (fun (s : Nat) (n : Int) => n + (if 0 < ctT (tsZ (M 39)) s then 1 else 0)) i4 0)), (0, zR 38)] [] M
    have cb := ctT_bd (t := (tsZ (M 39))) ⟨hs1, hs2, hs3, hs4⟩ (i4 : Int)
    refine z_ild (pc := 4) hc 0 rfl dX6_shapes_4 ?_
    refine z_bipush (pc := 5) hc 47 (by decide) dX6_shapes_5 ?_
    refine z_cge (pc := 7) (tgt := 32) hc (by omega) (by decide) dX6_shapes_7 (fun h7 => ?_) (fun h7 => ?_)
    · exfalso; omega
    · show zJW X 10 [(2, zI ((i4 : Nat) : Int)), (1, zI (zrep (fun (s : Nat) (n : Int) => n + (if 0 < ctT (tsZ (M 39)) s then 1 else 0)) i4 0)), (0, zR 38)] [] M
      refine z_ild (pc := 10) hc 1 rfl dX6_shapes_10 ?_
      refine z_ald (pc := 11) hc 2 rfl dX6_shapes_11 ?_
      refine z_ild (pc := 12) hc 0 rfl dX6_shapes_12 ?_
      refine kc_X6_151 (pc := 13) hc rfl (zfitX (by decide) rfl rfl) rfl (Nat.le_of_ble_eq_true rfl) (ct_X6_counted M (by assumption) (by assumption) (by assumption) ((i4 : Nat) : Int) (by omega)) dX6_shapes_13 ?_
      refine z_ile (pc := 16) (tgt := 23) hc (by omega) (by decide) dX6_shapes_16 (fun h16 => ?_) (fun h16 => ?_)
      · show zJW X 23 [(2, zI ((i4 : Nat) : Int)), (1, zI (zrep (fun (s : Nat) (n : Int) => n + (if 0 < ctT (tsZ (M 39)) s then 1 else 0)) i4 0)), (0, zR 38)] [zI (zrep (fun (s : Nat) (n : Int) => n + (if 0 < ctT (tsZ (M 39)) s then 1 else 0)) i4 0)] M
        refine z_iconst (pc := 23) hc 0 dX6_shapes_23 ?_
        refine z_iadd (pc := 24) hc dX6_shapes_24 ?_
        refine z_ist (pc := 25) (lv' := [(1, zI (zrep (fun (s : Nat) (n : Int) => n + (if 0 < ctT (tsZ (M 39)) s then 1 else 0)) i4 0 + 0)), (2, zI ((i4 : Nat) : Int)), (0, zR 38)]) hc rfl (by decide) dX6_shapes_25 ?_
        refine z_iinc (pc := 26) (lv' := [(2, zI (((i4 : Nat) : Int) + 1)), (1, zI (zrep (fun (s : Nat) (n : Int) => n + (if 0 < ctT (tsZ (M 39)) s then 1 else 0)) i4 0 + 0)), (0, zR 38)]) hc 1 rfl rfl (by decide) dX6_shapes_26 ?_
        refine z_goto (pc := 29) (tgt := 4) hc (by decide) dX6_shapes_29 ?_
        exact zJW_eq (by first | (rw [zrep_succ, if_pos h16]; rfl) | (rw [zrep_succ, if_neg (by omega)]; rfl)) rfl (by rfl) ih4
      · show zJW X 19 [(2, zI ((i4 : Nat) : Int)), (1, zI (zrep (fun (s : Nat) (n : Int) => n + (if 0 < ctT (tsZ (M 39)) s then 1 else 0)) i4 0)), (0, zR 38)] [zI (zrep (fun (s : Nat) (n : Int) => n + (if 0 < ctT (tsZ (M 39)) s then 1 else 0)) i4 0)] M
        refine z_iconst (pc := 19) hc 1 dX6_shapes_19 ?_
        refine z_goto (pc := 20) (tgt := 24) hc (by decide) dX6_shapes_20 ?_
        refine z_iadd (pc := 24) hc dX6_shapes_24 ?_
        refine z_ist (pc := 25) (lv' := [(1, zI (zrep (fun (s : Nat) (n : Int) => n + (if 0 < ctT (tsZ (M 39)) s then 1 else 0)) i4 0 + 1)), (2, zI ((i4 : Nat) : Int)), (0, zR 38)]) hc rfl (by decide) dX6_shapes_25 ?_
        refine z_iinc (pc := 26) (lv' := [(2, zI (((i4 : Nat) : Int) + 1)), (1, zI (zrep (fun (s : Nat) (n : Int) => n + (if 0 < ctT (tsZ (M 39)) s then 1 else 0)) i4 0 + 1)), (0, zR 38)]) hc 1 rfl rfl (by decide) dX6_shapes_26 ?_
        refine z_goto (pc := 29) (tgt := 4) hc (by decide) dX6_shapes_29 ?_
        exact zJW_eq (by first | (rw [zrep_succ, if_pos h16]; rfl) | (rw [zrep_succ, if_neg (by omega)]; rfl)) rfl (by rfl) ih4

set_option maxRecDepth 100000 in
set_option maxHeartbeats 4000000 in
theorem ct_X6_land (M : Mem) (hZ : zRf (M 39))   : zCt yX6_land KX6_land [zR 38] M (fun zv zM => zv = some (lnT (tsZ (M 39))) ∧ zM = M) := by
  obtain ⟨hs1, hs2, hs3, hs4, hs5, hs6, hs7⟩ := id hZ
  have hw9 := zhw hs1 hs2 hs3 hs4
  refine z_met (by decide) rfl (Nat.le_of_ble_eq_true rfl) (fun X hc he => ?_)
  show zJW X 0 [(0, zR 38)] [] M
  refine z_iconst (pc := 0) hc 0 dX6_land_0 ?_
  refine z_ist (pc := 1) (lv' := [(1, zI 0), (0, zR 38)]) hc rfl (by decide) dX6_land_1 ?_
  refine z_iconst (pc := 2) hc 0 dX6_land_2 ?_
  refine z_ist (pc := 3) (lv' := [(2, zI 0), (1, zI 0), (0, zR 38)]) hc rfl (by decide) dX6_land_3 ?_
  refine z_for ((M 39 0 * M 39 1).toNat) (fun i4 => [(2, zI ((i4 : Nat) : Int)), (1, zI (zrep (fun (k : Nat) (y : Int) => y + zbz (laT (tsZ (M 39)) ((k : Int) / M 39 1) ((k : Int) % M 39 1))) i4 0)), (0, zR 38)]) (fun i4 => M) (by rfl) (by rfl) ?_ (fun i4 hi4 ih4 => ?_)
  · show zJW X 4 [(2, zI ((((M 39 0 * M 39 1).toNat) : Nat) : Int)), (1, zI (zrep (fun (k : Nat) (y : Int) => y + zbz (laT (tsZ (M 39)) ((k : Int) / M 39 1) ((k : Int) % M 39 1))) ((M 39 0 * M 39 1).toNat) 0)), (0, zR 38)] [] M
    refine z_ild (pc := 4) hc 0 rfl dX6_land_4 ?_
    refine z_ald (pc := 5) hc 2 rfl dX6_land_5 ?_
    refine kc_X6_116 (pc := 6) hc rfl (zfitX (by decide) rfl rfl) rfl (Nat.le_of_ble_eq_true rfl) (ct_X6_tiles M) dX6_land_6 ?_
    refine z_cge (pc := 9) (tgt := 29) hc (by omega) (by decide) dX6_land_9 (fun h9 => ?_) (fun h9 => ?_)
    · show zJW X 29 [(2, zI ((((M 39 0 * M 39 1).toNat) : Nat) : Int)), (1, zI (zrep (fun (k : Nat) (y : Int) => y + zbz (laT (tsZ (M 39)) ((k : Int) / M 39 1) ((k : Int) % M 39 1))) ((M 39 0 * M 39 1).toNat) 0)), (0, zR 38)] [] M
      refine z_ild (pc := 29) hc 1 rfl dX6_land_29 ?_
      exact z_iret (pc := 30) hc he rfl dX6_land_30 (⟨congrArg some (z2_flat (tsZ (M 39)) (fun r c n => n + zbz (laT (tsZ (M 39)) r c)) 0 (show 0 ≤ M 39 0 by omega) hs3), rfl⟩)
    · exfalso; omega
  · show zJW X 4 [(2, zI ((i4 : Nat) : Int)), (1, zI (zrep (fun (k : Nat) (y : Int) => y + zbz (laT (tsZ (M 39)) ((k : Int) / M 39 1) ((k : Int) % M 39 1))) i4 0)), (0, zR 38)] [] M
    refine z_ild (pc := 4) hc 0 rfl dX6_land_4 ?_
    refine z_ald (pc := 5) hc 2 rfl dX6_land_5 ?_
    refine kc_X6_116 (pc := 6) hc rfl (zfitX (by decide) rfl rfl) rfl (Nat.le_of_ble_eq_true rfl) (ct_X6_tiles M) dX6_land_6 ?_
    refine z_cge (pc := 9) (tgt := 29) hc (by omega) (by decide) dX6_land_9 (fun h9 => ?_) (fun h9 => ?_)
    · exfalso; omega
    · show zJW X 12 [(2, zI ((i4 : Nat) : Int)), (1, zI (zrep (fun (k : Nat) (y : Int) => y + zbz (laT (tsZ (M 39)) ((k : Int) / M 39 1) ((k : Int) % M 39 1))) i4 0)), (0, zR 38)] [] M
      refine z_ild (pc := 12) hc 1 rfl dX6_land_12 ?_
      refine z_ald (pc := 13) hc 2 rfl dX6_land_13 ?_
      refine fg_X6_7 (pc := 14) hc rfl rfl dX6_land_14 ?_
      refine z_iconst (pc := 17) hc 3 dX6_land_17 ?_
      refine z_ild (pc := 18) hc 0 rfl dX6_land_18 ?_
      refine z_iadd (pc := 19) hc dX6_land_19 ?_
      refine z_iald (pc := 20) hc rfl rfl rfl (by decide) (by omega) dX6_land_20 ?_
      refine z_iadd (pc := 21) hc dX6_land_21 ?_
      refine z_ist (pc := 22) (lv' := [(1, zI (zrep (fun (k : Nat) (y : Int) => y + zbz (laT (tsZ (M 39)) ((k : Int) / M 39 1) ((k : Int) % M 39 1))) i4 0 + (M 39 (3 + ((i4 : Nat) : Int))))), (2, zI ((i4 : Nat) : Int)), (0, zR 38)]) hc rfl (by decide) dX6_land_22 ?_
      refine z_iinc (pc := 23) (lv' := [(2, zI (((i4 : Nat) : Int) + 1)), (1, zI (zrep (fun (k : Nat) (y : Int) => y + zbz (laT (tsZ (M 39)) ((k : Int) / M 39 1) ((k : Int) % M 39 1))) i4 0 + (M 39 (3 + ((i4 : Nat) : Int))))), (0, zR 38)]) hc 1 rfl rfl (by decide) dX6_land_23 ?_
      refine z_goto (pc := 26) (tgt := 4) hc (by decide) dX6_land_26 ?_
      exact zJW_eq (by rw [zrep_succ, laT_k hZ ⟨by omega, by omega⟩, ← zbz_of (hs6 (i4 : Int) (by omega) (by omega))]; rfl) rfl (by rfl) ih4

set_option maxRecDepth 100000 in
set_option maxHeartbeats 4000000 in
theorem ct_X6_coastAt (M : Mem) (hZ : zRf (M 39)) (k : Int) (hk : 0 ≤ k ∧ k < M 39 0 * M 39 1)  : zCt yX6_coastAt KX6_coastAt [zR 38, zI k] M (fun zv zM => zv = some (coT (tsZ (M 39)) (k / M 39 1) (k % M 39 1)) ∧ zM = M) := by
  obtain ⟨hs1, hs2, hs3, hs4, hs5, hs6, hs7⟩ := id hZ
  have hw9 := zhw hs1 hs2 hs3 hs4
  have kx := zkx hk (by omega)
  refine z_met (by decide) rfl (Nat.le_of_ble_eq_true rfl) (fun X hc he => ?_)
  show zJW X 0 [(0, zR 38), (1, zI k)] [] M
  refine z_iconst (pc := 0) hc 0 dX6_coastAt_0 ?_
  refine z_ist (pc := 1) (lv' := [(2, zI 0), (0, zR 38), (1, zI k)]) hc rfl (by decide) dX6_coastAt_1 ?_
  refine z_iconst (pc := 2) hc 0 dX6_coastAt_2 ?_
  refine z_ist (pc := 3) (lv' := [(3, zI 0), (2, zI 0), (0, zR 38), (1, zI k)]) hc rfl (by decide) dX6_coastAt_3 ?_
  refine z_forI 4 (fun i4 => [(3, zI (2 * ((i4 : Nat) : Int))), (2, zI (zrep (fun (d : Nat) (x : Int) => x + (if laT (tsZ (M 39)) ((k / M 39 1) + zrow (2 * d)) ((k % M 39 1) + zcol (2 * d)) then 0 else 1)) i4 0)), (0, zR 38), (1, zI k)]) (fun i4 => M) (fun i4 => i4 = 0 ∨ laT (tsZ (M 39)) (k / M 39 1) (k % M 39 1) = true) (by rfl) (by rfl) (by exact Or.inl rfl) (fun hv4 => ?_) (fun i4 hi4 hv4 ih4 => ?_)
  · show zJW X 4 [(3, zI (2 * 4)), (2, zI (zrep (fun (d : Nat) (x : Int) => x + (if laT (tsZ (M 39)) ((k / M 39 1) + zrow (2 * d)) ((k % M 39 1) + zcol (2 * d)) then 0 else 1)) 4 0)), (0, zR 38), (1, zI k)] [] M
    refine z_ild (pc := 4) hc 0 rfl dX6_coastAt_4 ?_
    refine z_bipush (pc := 5) hc 8 (by decide) dX6_coastAt_5 ?_
    refine z_cge (pc := 7) (tgt := 56) hc (by omega) (by decide) dX6_coastAt_7 (fun h7 => ?_) (fun h7 => ?_)
    · show zJW X 56 [(3, zI (2 * 4)), (2, zI (zrep (fun (d : Nat) (x : Int) => x + (if laT (tsZ (M 39)) ((k / M 39 1) + zrow (2 * d)) ((k % M 39 1) + zcol (2 * d)) then 0 else 1)) 4 0)), (0, zR 38), (1, zI k)] [] M
      refine z_ild (pc := 56) hc 1 rfl dX6_coastAt_56 ?_
      exact z_iret (pc := 57) hc he rfl dX6_coastAt_57 (by refine ⟨congrArg some ?_, rfl⟩; have hl := hv4.resolve_left (by decide); rw [coT, if_pos hl])
    · exfalso; omega
  · show zJW X 4 [(3, zI (2 * ((i4 : Nat) : Int))), (2, zI (zrep (fun (d : Nat) (x : Int) => x + (if laT (tsZ (M 39)) ((k / M 39 1) + zrow (2 * d)) ((k % M 39 1) + zcol (2 * d)) then 0 else 1)) i4 0)), (0, zR 38), (1, zI k)] [] M
    have zr := zrow_bd (2 * (i4 : Int))
    have zc := zcol_bd (2 * (i4 : Int))
    refine z_ild (pc := 4) hc 0 rfl dX6_coastAt_4 ?_
    refine z_bipush (pc := 5) hc 8 (by decide) dX6_coastAt_5 ?_
    refine z_cge (pc := 7) (tgt := 56) hc (by omega) (by decide) dX6_coastAt_7 (fun h7 => ?_) (fun h7 => ?_)
    · exfalso; omega
    · show zJW X 10 [(3, zI (2 * ((i4 : Nat) : Int))), (2, zI (zrep (fun (d : Nat) (x : Int) => x + (if laT (tsZ (M 39)) ((k / M 39 1) + zrow (2 * d)) ((k % M 39 1) + zcol (2 * d)) then 0 else 1)) i4 0)), (0, zR 38), (1, zI k)] [] M
      refine z_ald (pc := 10) hc 2 rfl dX6_coastAt_10 ?_
      refine z_ild (pc := 11) hc 3 rfl dX6_coastAt_11 ?_
      refine kc_X6_97 (pc := 12) hc rfl (zfitX (by decide) rfl rfl) rfl (Nat.le_of_ble_eq_true rfl) (ct_X6_isLandAt M (by assumption) k (by omega)) dX6_coastAt_12 ?_
      refine z_beq (pc := 15) (tgt := 56) hc (by decide) dX6_coastAt_15 (fun h15 => ?_) (fun h15 => ?_)
      · show zJW X 56 [(3, zI (2 * ((i4 : Nat) : Int))), (2, zI (zrep (fun (d : Nat) (x : Int) => x + (if laT (tsZ (M 39)) ((k / M 39 1) + zrow (2 * d)) ((k % M 39 1) + zcol (2 * d)) then 0 else 1)) i4 0)), (0, zR 38), (1, zI k)] [] M
        refine z_ild (pc := 56) hc 1 rfl dX6_coastAt_56 ?_
        exact z_iret (pc := 57) hc he rfl dX6_coastAt_57 (by refine ⟨congrArg some ?_, rfl⟩; have hl : laT (tsZ (M 39)) (k / M 39 1) (k % M 39 1) = false := (by rw [laT_k hZ hk]; exact h15); have e0 : i4 = 0 := hv4.resolve_right (by rw [hl]; decide); rw [e0, coT, hl]; rfl)
      · show zJW X 18 [(3, zI (2 * ((i4 : Nat) : Int))), (2, zI (zrep (fun (d : Nat) (x : Int) => x + (if laT (tsZ (M 39)) ((k / M 39 1) + zrow (2 * d)) ((k % M 39 1) + zcol (2 * d)) then 0 else 1)) i4 0)), (0, zR 38), (1, zI k)] [] M
        refine z_ild (pc := 18) hc 1 rfl dX6_coastAt_18 ?_
        refine z_ald (pc := 19) hc 2 rfl dX6_coastAt_19 ?_
        refine z_ild (pc := 20) hc 3 rfl dX6_coastAt_20 ?_
        refine z_ald (pc := 21) hc 2 rfl dX6_coastAt_21 ?_
        refine fg_X6_7 (pc := 22) hc rfl rfl dX6_coastAt_22 ?_
        refine z_iconst (pc := 25) hc 1 dX6_coastAt_25 ?_
        refine z_iald (pc := 26) hc rfl rfl rfl (by decide) (by omega) dX6_coastAt_26 ?_
        refine z_idiv (pc := 27) hc (by omega) dX6_coastAt_27 ?_
        refine z_ild (pc := 28) hc 3 rfl dX6_coastAt_28 ?_
        refine z_ald (pc := 29) hc 2 rfl dX6_coastAt_29 ?_
        refine fg_X6_7 (pc := 30) hc rfl rfl dX6_coastAt_30 ?_
        refine z_iconst (pc := 33) hc 1 dX6_coastAt_33 ?_
        refine z_iald (pc := 34) hc rfl rfl rfl (by decide) (by omega) dX6_coastAt_34 ?_
        refine z_irem (pc := 35) hc (by omega) dX6_coastAt_35 ?_
        refine z_ild (pc := 36) hc 0 rfl dX6_coastAt_36 ?_
        refine kc_X6_101 (pc := 37) hc rfl (zfitX (by decide) rfl rfl) rfl (Nat.le_of_ble_eq_true rfl) (ct_X6_isLandBeside M (by assumption) (k / (M 39 1)) (by omega) (k % (M 39 1)) (by omega) (2 * ((i4 : Nat) : Int)) (by omega)) dX6_coastAt_37 ?_
        refine z_beq (pc := 40) (tgt := 47) hc (by decide) dX6_coastAt_40 (fun h40 => ?_) (fun h40 => ?_)
        · show zJW X 47 [(3, zI (2 * ((i4 : Nat) : Int))), (2, zI (zrep (fun (d : Nat) (x : Int) => x + (if laT (tsZ (M 39)) ((k / M 39 1) + zrow (2 * d)) ((k % M 39 1) + zcol (2 * d)) then 0 else 1)) i4 0)), (0, zR 38), (1, zI k)] [zI (zrep (fun (d : Nat) (x : Int) => x + (if laT (tsZ (M 39)) ((k / M 39 1) + zrow (2 * d)) ((k % M 39 1) + zcol (2 * d)) then 0 else 1)) i4 0)] M
          refine z_iconst (pc := 47) hc 1 dX6_coastAt_47 ?_
          refine z_iadd (pc := 48) hc dX6_coastAt_48 ?_
          refine z_ist (pc := 49) (lv' := [(2, zI (zrep (fun (d : Nat) (x : Int) => x + (if laT (tsZ (M 39)) ((k / M 39 1) + zrow (2 * d)) ((k % M 39 1) + zcol (2 * d)) then 0 else 1)) i4 0 + 1)), (3, zI (2 * ((i4 : Nat) : Int))), (0, zR 38), (1, zI k)]) hc rfl (by decide) dX6_coastAt_49 ?_
          refine z_iinc (pc := 50) (lv' := [(3, zI ((2 * ((i4 : Nat) : Int)) + 2)), (2, zI (zrep (fun (d : Nat) (x : Int) => x + (if laT (tsZ (M 39)) ((k / M 39 1) + zrow (2 * d)) ((k % M 39 1) + zcol (2 * d)) then 0 else 1)) i4 0 + 1)), (0, zR 38), (1, zI k)]) hc 1 rfl rfl (by decide) dX6_coastAt_50 ?_
          refine z_goto (pc := 53) (tgt := 4) hc (by decide) dX6_coastAt_53 ?_
          exact zJW_eq (by simp only [zrep_succ, h40, ↓reduceIte, Bool.false_eq_true, Int.natCast_add, Int.natCast_one, Int.mul_add, Int.mul_one]) rfl (by rfl) (ih4 (by exact Or.inr (by rw [laT_k hZ hk]; exact h15)))
        · show zJW X 43 [(3, zI (2 * ((i4 : Nat) : Int))), (2, zI (zrep (fun (d : Nat) (x : Int) => x + (if laT (tsZ (M 39)) ((k / M 39 1) + zrow (2 * d)) ((k % M 39 1) + zcol (2 * d)) then 0 else 1)) i4 0)), (0, zR 38), (1, zI k)] [zI (zrep (fun (d : Nat) (x : Int) => x + (if laT (tsZ (M 39)) ((k / M 39 1) + zrow (2 * d)) ((k % M 39 1) + zcol (2 * d)) then 0 else 1)) i4 0)] M
          refine z_iconst (pc := 43) hc 0 dX6_coastAt_43 ?_
          refine z_goto (pc := 44) (tgt := 48) hc (by decide) dX6_coastAt_44 ?_
          refine z_iadd (pc := 48) hc dX6_coastAt_48 ?_
          refine z_ist (pc := 49) (lv' := [(2, zI (zrep (fun (d : Nat) (x : Int) => x + (if laT (tsZ (M 39)) ((k / M 39 1) + zrow (2 * d)) ((k % M 39 1) + zcol (2 * d)) then 0 else 1)) i4 0 + 0)), (3, zI (2 * ((i4 : Nat) : Int))), (0, zR 38), (1, zI k)]) hc rfl (by decide) dX6_coastAt_49 ?_
          refine z_iinc (pc := 50) (lv' := [(3, zI ((2 * ((i4 : Nat) : Int)) + 2)), (2, zI (zrep (fun (d : Nat) (x : Int) => x + (if laT (tsZ (M 39)) ((k / M 39 1) + zrow (2 * d)) ((k % M 39 1) + zcol (2 * d)) then 0 else 1)) i4 0 + 0)), (0, zR 38), (1, zI k)]) hc 1 rfl rfl (by decide) dX6_coastAt_50 ?_
          refine z_goto (pc := 53) (tgt := 4) hc (by decide) dX6_coastAt_53 ?_
          exact zJW_eq (by simp only [zrep_succ, h40, ↓reduceIte, Bool.false_eq_true, Int.natCast_add, Int.natCast_one, Int.mul_add, Int.mul_one]) rfl (by rfl) (ih4 (by exact Or.inr (by rw [laT_k hZ hk]; exact h15)))

set_option maxRecDepth 100000 in
set_option maxHeartbeats 4000000 in
theorem ct_X6_coast (M : Mem) (hZ : zRf (M 39))   : zCt yX6_coast KX6_coast [zR 38] M (fun zv zM => zv = some (coB (tsZ (M 39))) ∧ zM = M) := by
  obtain ⟨hs1, hs2, hs3, hs4, hs5, hs6, hs7⟩ := id hZ
  have hw9 := zhw hs1 hs2 hs3 hs4
  refine z_met (by decide) rfl (Nat.le_of_ble_eq_true rfl) (fun X hc he => ?_)
  show zJW X 0 [(0, zR 38)] [] M
  refine z_iconst (pc := 0) hc 0 dX6_coast_0 ?_
  refine z_ist (pc := 1) (lv' := [(1, zI 0), (0, zR 38)]) hc rfl (by decide) dX6_coast_1 ?_
  refine z_iconst (pc := 2) hc 0 dX6_coast_2 ?_
  refine z_ist (pc := 3) (lv' := [(2, zI 0), (1, zI 0), (0, zR 38)]) hc rfl (by decide) dX6_coast_3 ?_
  refine z_for ((M 39 0 * M 39 1).toNat) (fun i4 => [(2, zI ((i4 : Nat) : Int)), (1, zI (zrep (fun (k : Nat) (y : Int) => y + coT (tsZ (M 39)) ((k : Int) / M 39 1) ((k : Int) % M 39 1)) i4 0)), (0, zR 38)]) (fun i4 => M) (by rfl) (by rfl) ?_ (fun i4 hi4 ih4 => ?_)
  · show zJW X 4 [(2, zI ((((M 39 0 * M 39 1).toNat) : Nat) : Int)), (1, zI (zrep (fun (k : Nat) (y : Int) => y + coT (tsZ (M 39)) ((k : Int) / M 39 1) ((k : Int) % M 39 1)) ((M 39 0 * M 39 1).toNat) 0)), (0, zR 38)] [] M
    refine z_ild (pc := 4) hc 0 rfl dX6_coast_4 ?_
    refine z_ald (pc := 5) hc 2 rfl dX6_coast_5 ?_
    refine kc_X6_116 (pc := 6) hc rfl (zfitX (by decide) rfl rfl) rfl (Nat.le_of_ble_eq_true rfl) (ct_X6_tiles M) dX6_coast_6 ?_
    refine z_cge (pc := 9) (tgt := 26) hc (by omega) (by decide) dX6_coast_9 (fun h9 => ?_) (fun h9 => ?_)
    · show zJW X 26 [(2, zI ((((M 39 0 * M 39 1).toNat) : Nat) : Int)), (1, zI (zrep (fun (k : Nat) (y : Int) => y + coT (tsZ (M 39)) ((k : Int) / M 39 1) ((k : Int) % M 39 1)) ((M 39 0 * M 39 1).toNat) 0)), (0, zR 38)] [] M
      refine z_ild (pc := 26) hc 1 rfl dX6_coast_26 ?_
      exact z_iret (pc := 27) hc he rfl dX6_coast_27 (⟨congrArg some (z2_flat (tsZ (M 39)) (fun r c n => n + coT (tsZ (M 39)) r c) 0 (show 0 ≤ M 39 0 by omega) hs3), rfl⟩)
    · exfalso; omega
  · show zJW X 4 [(2, zI ((i4 : Nat) : Int)), (1, zI (zrep (fun (k : Nat) (y : Int) => y + coT (tsZ (M 39)) ((k : Int) / M 39 1) ((k : Int) % M 39 1)) i4 0)), (0, zR 38)] [] M
    refine z_ild (pc := 4) hc 0 rfl dX6_coast_4 ?_
    refine z_ald (pc := 5) hc 2 rfl dX6_coast_5 ?_
    refine kc_X6_116 (pc := 6) hc rfl (zfitX (by decide) rfl rfl) rfl (Nat.le_of_ble_eq_true rfl) (ct_X6_tiles M) dX6_coast_6 ?_
    refine z_cge (pc := 9) (tgt := 26) hc (by omega) (by decide) dX6_coast_9 (fun h9 => ?_) (fun h9 => ?_)
    · exfalso; omega
    · show zJW X 12 [(2, zI ((i4 : Nat) : Int)), (1, zI (zrep (fun (k : Nat) (y : Int) => y + coT (tsZ (M 39)) ((k : Int) / M 39 1) ((k : Int) % M 39 1)) i4 0)), (0, zR 38)] [] M
      refine z_ild (pc := 12) hc 1 rfl dX6_coast_12 ?_
      refine z_ald (pc := 13) hc 2 rfl dX6_coast_13 ?_
      refine z_ild (pc := 14) hc 0 rfl dX6_coast_14 ?_
      refine kc_X6_160 (pc := 15) hc rfl (zfitX (by decide) rfl rfl) rfl (Nat.le_of_ble_eq_true rfl) (ct_X6_coastAt M (by assumption) ((i4 : Nat) : Int) (by first | assumption | omega)) dX6_coast_15 ?_
      refine z_iadd (pc := 18) hc dX6_coast_18 ?_
      refine z_ist (pc := 19) (lv' := [(1, zI (zrep (fun (k : Nat) (y : Int) => y + coT (tsZ (M 39)) ((k : Int) / M 39 1) ((k : Int) % M 39 1)) i4 0 + (coT (tsZ (M 39)) (((i4 : Nat) : Int) / M 39 1) (((i4 : Nat) : Int) % M 39 1)))), (2, zI ((i4 : Nat) : Int)), (0, zR 38)]) hc rfl (by decide) dX6_coast_19 ?_
      refine z_iinc (pc := 20) (lv' := [(2, zI (((i4 : Nat) : Int) + 1)), (1, zI (zrep (fun (k : Nat) (y : Int) => y + coT (tsZ (M 39)) ((k : Int) / M 39 1) ((k : Int) % M 39 1)) i4 0 + (coT (tsZ (M 39)) (((i4 : Nat) : Int) / M 39 1) (((i4 : Nat) : Int) % M 39 1)))), (0, zR 38)]) hc 1 rfl rfl (by decide) dX6_coast_20 ?_
      refine z_goto (pc := 23) (tgt := 4) hc (by decide) dX6_coast_23 ?_
      exact zJW_eq (by rfl) rfl (by rfl) ih4

set_option maxRecDepth 100000 in
set_option maxHeartbeats 4000000 in
theorem ct_X6_tile (M : Mem) (hZ : zRf (M 39)) (hU : TbR M) (hO : TOk (tsZ (M 39))) (r : Int) (hb_r : -2147483648 ≤ r ∧ r < 2147483648) (c : Int) (hb_c : -2147483648 ≤ c ∧ c < 2147483648) (p : Int) (hb_p : -2147483648 ≤ p ∧ p < 2147483648)  : zCt yX6_tile KX6_tile [zR 38, zI r, zI c, zI p] M (fun zv zM => zv = some (tlA (tsZ (M 39)) r c p) ∧ zM = M) := by
  obtain ⟨hs1, hs2, hs3, hs4, hs5, hs6, hs7⟩ := id hZ
  have hw9 := zhw hs1 hs2 hs3 hs4
  refine z_met (by decide) rfl (Nat.le_of_ble_eq_true rfl) (fun X hc he => ?_)
  show zJW X 0 [(0, zR 38), (1, zI r), (2, zI c), (3, zI p)] [] M
  refine z_ald (pc := 0) hc 0 rfl dX6_tile_0 ?_
  refine z_ild (pc := 1) hc 1 rfl dX6_tile_1 ?_
  refine z_ild (pc := 2) hc 2 rfl dX6_tile_2 ?_
  refine kc_X6_90 (pc := 3) hc rfl (zfitX (by decide) rfl rfl) rfl (Nat.le_of_ble_eq_true rfl) (ct_X6_isTile M (by assumption) r (by omega) c (by omega)) dX6_tile_3 ?_
  refine z_bne (pc := 6) (tgt := 11) hc (by decide) dX6_tile_6 (fun h6 => ?_) (fun h6 => ?_)
  · show zJW X 11 [(0, zR 38), (1, zI r), (2, zI c), (3, zI p)] [] M
    have h6' := h6
    rw [inT_Z] at h6'
    have h6' := of_decide_eq_true h6'
    have ix := zix ⟨h6'.1, h6'.2.1⟩ ⟨h6'.2.2.1, h6'.2.2.2⟩
    have ixk : 0 ≤ (M 39 1 * r + c) ∧ (M 39 1 * r + c) < M 39 0 * M 39 1 := ⟨ix.1, ix.2.1⟩
    have hlk := laT_k hZ ixk
    have hpk := piT_k hZ ixk
    rw [ix.2.2.1, ix.2.2.2] at hlk hpk
    have h7k := hs7 (M 39 1 * r + c) ix.1 (by omega)
    refine z_ald (pc := 11) hc 0 rfl dX6_tile_11 ?_
    refine z_ild (pc := 12) hc 1 rfl dX6_tile_12 ?_
    refine z_ild (pc := 13) hc 2 rfl dX6_tile_13 ?_
    refine kc_X6_94 (pc := 14) hc rfl (zfitX (by decide) rfl rfl) rfl (Nat.le_of_ble_eq_true rfl) (ct_X6_at M r c) dX6_tile_14 ?_
    refine z_isw (pc := 17) (lv' := [(4, zI (M 39 1 * r + c)), (0, zR 38), (1, zI r), (2, zI c), (3, zI p)]) hc rfl (by decide) dX6_tile_17 ?_
    refine z_ild (pc := 19) hc 4 rfl dX6_tile_19 ?_
    by_cases hsw20 : 0 ≤ p ∧ p ≤ 5
    · rcases (show p = 0 ∨ p = 1 ∨ p = 2 ∨ p = 3 ∨ p = 4 ∨ p = 5 by omega) with hsv20 | hsv20 | hsv20 | hsv20 | hsv20 | hsv20
      · refine z_swIn (pc := 20) (off := 40) (tgt := 60) hc (by omega) hsw20 (by rw [hsv20]; rfl) (by decide) dX6_tile_20 ?_
        show zJW X 60 [(4, zI (M 39 1 * r + c)), (0, zR 38), (1, zI r), (2, zI c), (3, zI p)] [] M
        refine z_ald (pc := 60) hc 1 rfl dX6_tile_60 ?_
        refine fg_X6_7 (pc := 61) hc rfl rfl dX6_tile_61 ?_
        refine z_iconst (pc := 64) hc 3 dX6_tile_64 ?_
        refine z_ilw (pc := 65) hc 0 rfl dX6_tile_65 ?_
        refine z_iadd (pc := 67) hc dX6_tile_67 ?_
        refine z_iald (pc := 68) hc rfl rfl rfl (by decide) (by omega) dX6_tile_68 ?_
        exact z_iret (pc := 69) hc he rfl dX6_tile_69 (by refine ⟨?_, rfl⟩; rw [tlA, if_pos h6, hsv20, hlk]; exact congrArg some (zbz_of (hs6 (M 39 1 * r + c) ix.1 (by omega))))
      · refine z_swIn (pc := 20) (off := 50) (tgt := 70) hc (by omega) hsw20 (by rw [hsv20]; rfl) (by decide) dX6_tile_20 ?_
        show zJW X 70 [(4, zI (M 39 1 * r + c)), (0, zR 38), (1, zI r), (2, zI c), (3, zI p)] [] M
        refine z_ald (pc := 70) hc 1 rfl dX6_tile_70 ?_
        refine z_ild (pc := 71) hc 2 rfl dX6_tile_71 ?_
        refine z_ild (pc := 72) hc 3 rfl dX6_tile_72 ?_
        refine kc_X6_104 (pc := 73) hc rfl (zfitX (by decide) rfl rfl) rfl (Nat.le_of_ble_eq_true rfl) (ct_X6_around M (by assumption) r (by omega) c (by omega)) dX6_tile_73 ?_
        exact z_iret (pc := 76) hc he rfl dX6_tile_76 (by refine ⟨?_, rfl⟩; rw [tlA, if_pos h6, hsv20]; rfl)
      · refine z_swIn (pc := 20) (off := 57) (tgt := 77) hc (by omega) hsw20 (by rw [hsv20]; rfl) (by decide) dX6_tile_20 ?_
        show zJW X 77 [(4, zI (M 39 1 * r + c)), (0, zR 38), (1, zI r), (2, zI c), (3, zI p)] [] M
        refine z_ald (pc := 77) hc 1 rfl dX6_tile_77 ?_
        refine z_ilw (pc := 78) hc 0 rfl dX6_tile_78 ?_
        refine kc_X6_107 (pc := 80) hc rfl (zfitX (by decide) rfl rfl) rfl (Nat.le_of_ble_eq_true rfl) (ct_X6_right M (by assumption) (by assumption) (M 39 1 * r + c) (by first | assumption | omega)) dX6_tile_80 ?_
        exact z_iret (pc := 83) hc he rfl dX6_tile_83 (by refine ⟨?_, rfl⟩; rw [ix.2.2.1, ix.2.2.2]; rw [tlA, if_pos h6, hsv20]; rfl)
      · refine z_swIn (pc := 20) (off := 64) (tgt := 84) hc (by omega) hsw20 (by rw [hsv20]; rfl) (by decide) dX6_tile_20 ?_
        show zJW X 84 [(4, zI (M 39 1 * r + c)), (0, zR 38), (1, zI r), (2, zI c), (3, zI p)] [] M
        refine z_ald (pc := 84) hc 1 rfl dX6_tile_84 ?_
        refine z_ilw (pc := 85) hc 0 rfl dX6_tile_85 ?_
        refine kc_X6_110 (pc := 87) hc rfl (zfitX (by decide) rfl rfl) rfl (Nat.le_of_ble_eq_true rfl) (ct_X6_shapeAt M (by assumption) (by assumption) (M 39 1 * r + c) (by first | assumption | omega)) dX6_tile_87 ?_
        exact z_iret (pc := 90) hc he rfl dX6_tile_90 (by refine ⟨?_, rfl⟩; rw [ix.2.2.1, ix.2.2.2]; rw [tlA, if_pos h6, hsv20]; rfl)
      · refine z_swIn (pc := 20) (off := 71) (tgt := 91) hc (by omega) hsw20 (by rw [hsv20]; rfl) (by decide) dX6_tile_20 ?_
        show zJW X 91 [(4, zI (M 39 1 * r + c)), (0, zR 38), (1, zI r), (2, zI c), (3, zI p)] [] M
        refine z_ald (pc := 91) hc 1 rfl dX6_tile_91 ?_
        refine fg_X6_7 (pc := 92) hc rfl rfl dX6_tile_92 ?_
        refine z_sipush (pc := 95) hc 147 (by decide) dX6_tile_95 ?_
        refine z_ilw (pc := 98) hc 0 rfl dX6_tile_98 ?_
        refine z_iadd (pc := 100) hc dX6_tile_100 ?_
        refine z_iald (pc := 101) hc rfl rfl rfl (by decide) (by omega) dX6_tile_101 ?_
        refine z_bipush (pc := 102) hc (-6) (by decide) dX6_tile_102 ?_
        refine z_cne (pc := 104) (tgt := 111) hc (by omega) (by decide) dX6_tile_104 (fun h104 => ?_) (fun h104 => ?_)
        · show zJW X 111 [(4, zI (M 39 1 * r + c)), (0, zR 38), (1, zI r), (2, zI c), (3, zI p)] [] M
          refine z_iconst (pc := 111) hc 1 dX6_tile_111 ?_
          exact z_iret (pc := 112) hc he rfl dX6_tile_112 (by refine ⟨?_, rfl⟩; rw [tlA, if_pos h6, hsv20, hpk]; first | (rw [if_pos h104]; rfl) | (rw [if_neg h104, decide_eq_true (show M 39 (147 + (M 39 1 * r + c)) ≠ -1 by omega)]; rfl))
        · show zJW X 107 [(4, zI (M 39 1 * r + c)), (0, zR 38), (1, zI r), (2, zI c), (3, zI p)] [] M
          refine z_iconst (pc := 107) hc 0 dX6_tile_107 ?_
          refine z_goto (pc := 108) (tgt := 112) hc (by decide) dX6_tile_108 ?_
          exact z_iret (pc := 112) hc he rfl dX6_tile_112 (by refine ⟨?_, rfl⟩; rw [tlA, if_pos h6, hsv20, hpk]; first | (rw [if_pos h104]; rfl) | (rw [if_neg h104, decide_eq_true (show M 39 (147 + (M 39 1 * r + c)) ≠ -1 by omega)]; rfl))
      · refine z_swIn (pc := 20) (off := 93) (tgt := 113) hc (by omega) hsw20 (by rw [hsv20]; rfl) (by decide) dX6_tile_20 ?_
        show zJW X 113 [(4, zI (M 39 1 * r + c)), (0, zR 38), (1, zI r), (2, zI c), (3, zI p)] [] M
        refine z_ald (pc := 113) hc 1 rfl dX6_tile_113 ?_
        refine z_ilw (pc := 114) hc 0 rfl dX6_tile_114 ?_
        refine kc_X6_142 (pc := 116) hc rfl (zfitX (by decide) rfl rfl) rfl (Nat.le_of_ble_eq_true rfl) (ct_X6_faultsAt M (by assumption) (by assumption) (by assumption) (M 39 1 * r + c) (by first | assumption | omega)) dX6_tile_116 ?_
        exact z_iret (pc := 119) hc he rfl dX6_tile_119 (by refine ⟨?_, rfl⟩; rw [ix.2.2.1, ix.2.2.2]; rw [tlA, if_pos h6, hsv20]; rfl)
    · refine z_swOut (pc := 20) (tgt := 120) hc (by omega) (by omega) (by decide) dX6_tile_20 ?_
      show zJW X 120 [(4, zI (M 39 1 * r + c)), (0, zR 38), (1, zI r), (2, zI c), (3, zI p)] [] M
      refine z_bipush (pc := 120) hc (-2) (by decide) dX6_tile_120 ?_
      exact z_iret (pc := 122) hc he rfl dX6_tile_122 (by refine ⟨?_, rfl⟩; rw [tlA, if_pos h6, if_neg (by omega), if_neg (by omega), if_neg (by omega), if_neg (by omega), if_neg (by omega), if_neg (by omega)])
  · show zJW X 9 [(0, zR 38), (1, zI r), (2, zI c), (3, zI p)] [] M
    refine z_iconst (pc := 9) hc (-1) dX6_tile_9 ?_
    exact z_iret (pc := 10) hc he rfl dX6_tile_10 (by refine ⟨?_, rfl⟩; rw [tlA, h6]; rfl)

set_option maxRecDepth 100000 in
set_option maxHeartbeats 4000000 in
theorem ct_X6_needs (M : Mem) (hZ : zRf (M 39)) (hU : TbR M) (hO : TOk (tsZ (M 39))) (r : Int) (hb_r : -2147483648 ≤ r ∧ r < 2147483648) (c : Int) (hb_c : -2147483648 ≤ c ∧ c < 2147483648) (s : Int) (hb_s : -2147483648 ≤ s ∧ s < 2147483648)  : zCt yX6_needs KX6_needs [zR 38, zI r, zI c, zI s] M (fun zv zM => zv = some (if inT (tsZ (M 39)) r c = true ∧ 0 ≤ s ∧ s < 47 then neB (tsZ (M 39)) r c s 8 else -1) ∧ zM = M) := by
  obtain ⟨hs1, hs2, hs3, hs4, hs5, hs6, hs7⟩ := id hZ
  have hw9 := zhw hs1 hs2 hs3 hs4
  refine z_met (by decide) rfl (Nat.le_of_ble_eq_true rfl) (fun X hc he => ?_)
  show zJW X 0 [(0, zR 38), (1, zI r), (2, zI c), (3, zI s)] [] M
  refine z_ald (pc := 0) hc 0 rfl dX6_needs_0 ?_
  refine z_ild (pc := 1) hc 1 rfl dX6_needs_1 ?_
  refine z_ild (pc := 2) hc 2 rfl dX6_needs_2 ?_
  refine kc_X6_90 (pc := 3) hc rfl (zfitX (by decide) rfl rfl) rfl (Nat.le_of_ble_eq_true rfl) (ct_X6_isTile M (by assumption) r (by omega) c (by omega)) dX6_needs_3 ?_
  refine z_beq (pc := 6) (tgt := 16) hc (by decide) dX6_needs_6 (fun h6 => ?_) (fun h6 => ?_)
  · show zJW X 16 [(0, zR 38), (1, zI r), (2, zI c), (3, zI s)] [] M
    refine z_iconst (pc := 16) hc (-1) dX6_needs_16 ?_
    exact z_iret (pc := 17) hc he rfl dX6_needs_17 (by refine ⟨congrArg some ?_, rfl⟩; refine (if_neg (fun h => ?_)).symm; first | (rw [h6] at h; exact absurd h.1 (by decide)) | (have h13 := of_decide_eq_false h13; omega))
  · show zJW X 9 [(0, zR 38), (1, zI r), (2, zI c), (3, zI s)] [] M
    have h6' := h6
    rw [inT_Z] at h6'
    have h6' := of_decide_eq_true h6'
    have ix := zix ⟨h6'.1, h6'.2.1⟩ ⟨h6'.2.2.1, h6'.2.2.2⟩
    have ixk : 0 ≤ (M 39 1 * r + c) ∧ (M 39 1 * r + c) < M 39 0 * M 39 1 := ⟨ix.1, ix.2.1⟩
    have hlk := laT_k hZ ixk
    have hpk := piT_k hZ ixk
    rw [ix.2.2.1, ix.2.2.2] at hlk hpk
    refine z_ild (pc := 9) hc 3 rfl dX6_needs_9 ?_
    refine kc_X6_145 (pc := 10) hc rfl (zfit0 (by decide) rfl rfl) (Nat.le_of_ble_eq_true rfl) (ct_X6_isShape M s (by omega)) dX6_needs_10 ?_
    refine z_bne (pc := 13) (tgt := 18) hc (by decide) dX6_needs_13 (fun h13 => ?_) (fun h13 => ?_)
    · show zJW X 18 [(0, zR 38), (1, zI r), (2, zI c), (3, zI s)] [] M
      have h13 := of_decide_eq_true h13
      have hs' : 0 ≤ s ∧ s < 47 := by omega
      refine z_ald (pc := 18) hc 0 rfl dX6_needs_18 ?_
      refine fg_X6_23 (pc := 19) hc rfl rfl dX6_needs_19 ?_
      refine z_ild (pc := 22) hc 3 rfl dX6_needs_22 ?_
      refine z_iald (pc := 23) hc rfl rfl rfl (by decide) (by omega) dX6_needs_23 ?_
      rw [hU.1 s hs'.1 hs'.2]
      refine z_isw (pc := 24) (lv' := [(4, zI (mkZ s)), (0, zR 38), (1, zI r), (2, zI c), (3, zI s)]) hc rfl (by decide) dX6_needs_24 ?_
      refine z_iconst (pc := 26) hc 0 dX6_needs_26 ?_
      refine z_isw (pc := 27) (lv' := [(5, zI 0), (4, zI (mkZ s)), (0, zR 38), (1, zI r), (2, zI c), (3, zI s)]) hc rfl (by decide) dX6_needs_27 ?_
      refine z_iconst (pc := 29) hc 0 dX6_needs_29 ?_
      refine z_isw (pc := 30) (lv' := [(6, zI 0), (5, zI 0), (4, zI (mkZ s)), (0, zR 38), (1, zI r), (2, zI c), (3, zI s)]) hc rfl (by decide) dX6_needs_30 ?_
      refine z_forI 8 (fun i32 => [(6, zI ((i32 : Nat) : Int)), (5, zI (neB (tsZ (M 39)) r c s i32)), (4, zI (mkZ s)), (0, zR 38), (1, zI r), (2, zI c), (3, zI s)]) (fun i32 => M) (fun i32 => 0 ≤ (neB (tsZ (M 39)) r c s i32) ∧ (neB (tsZ (M 39)) r c s i32) ≤ i32) (by rfl) (by rfl) (by exact ⟨(Int.le_refl 0 : (0 : Int) ≤ 0), (Int.le_refl 0 : (0 : Int) ≤ 0)⟩) (fun hv32 => ?_) (fun i32 hi32 hv32 ih32 => ?_)
      · show zJW X 32 [(6, zI 8), (5, zI (neB (tsZ (M 39)) r c s 8)), (4, zI (mkZ s)), (0, zR 38), (1, zI r), (2, zI c), (3, zI s)] [] M
        refine z_ilw (pc := 32) hc 0 rfl dX6_needs_32 ?_
        refine z_bipush (pc := 34) hc 8 (by decide) dX6_needs_34 ?_
        refine z_cge (pc := 36) (tgt := 141) hc (by omega) (by decide) dX6_needs_36 (fun h36 => ?_) (fun h36 => ?_)
        · show zJW X 141 [(6, zI 8), (5, zI (neB (tsZ (M 39)) r c s 8)), (4, zI (mkZ s)), (0, zR 38), (1, zI r), (2, zI c), (3, zI s)] [] M
          refine z_ilw (pc := 141) hc 1 rfl dX6_needs_141 ?_
          exact z_iret (pc := 143) hc he rfl dX6_needs_143 (by refine ⟨congrArg some ?_, rfl⟩; rw [if_pos ⟨h6, hs'⟩])
        · exfalso; omega
      · show zJW X 32 [(6, zI ((i32 : Nat) : Int)), (5, zI (neB (tsZ (M 39)) r c s i32)), (4, zI (mkZ s)), (0, zR 38), (1, zI r), (2, zI c), (3, zI s)] [] M
        have zr := zrow_bd (i32 : Int)
        have zc := zcol_bd (i32 : Int)
        have zb1 := biZ_bd (mkZ s) ((i32 : Int) - 1)
        have zb2 := biZ_bd (mkZ s) ((i32 : Int) + 1)
        have zb3 := biZ_bd (mkZ s) (i32 : Int)
        have zb4 := zbz_bd (laT (tsZ (M 39)) (r + zrow (i32 : Int)) (c + zcol (i32 : Int)))
        refine z_ilw (pc := 32) hc 0 rfl dX6_needs_32 ?_
        refine z_bipush (pc := 34) hc 8 (by decide) dX6_needs_34 ?_
        refine z_cge (pc := 36) (tgt := 141) hc (by omega) (by decide) dX6_needs_36 (fun h36 => ?_) (fun h36 => ?_)
        · exfalso; omega
        · show zJW X 39 [(6, zI ((i32 : Nat) : Int)), (5, zI (neB (tsZ (M 39)) r c s i32)), (4, zI (mkZ s)), (0, zR 38), (1, zI r), (2, zI c), (3, zI s)] [] M
          refine z_ilw (pc := 39) hc 0 rfl dX6_needs_39 ?_
          refine z_iconst (pc := 41) hc 2 dX6_needs_41 ?_
          refine z_irem (pc := 42) hc (by omega) dX6_needs_42 ?_
          refine z_ieq (pc := 43) (tgt := 69) hc (by omega) (by decide) dX6_needs_43 (fun h43 => ?_) (fun h43 => ?_)
          · show zJW X 69 [(6, zI ((i32 : Nat) : Int)), (5, zI (neB (tsZ (M 39)) r c s i32)), (4, zI (mkZ s)), (0, zR 38), (1, zI r), (2, zI c), (3, zI s)] [] M
            refine z_iconst (pc := 69) hc 1 dX6_needs_69 ?_
            refine z_goto (pc := 70) (tgt := 74) hc (by decide) dX6_needs_70 ?_
            refine z_isw (pc := 74) (lv' := [(7, zI 1), (6, zI ((i32 : Nat) : Int)), (5, zI (neB (tsZ (M 39)) r c s i32)), (4, zI (mkZ s)), (0, zR 38), (1, zI r), (2, zI c), (3, zI s)]) hc rfl (by decide) dX6_needs_74 ?_
            refine z_ilw (pc := 76) hc 0 rfl dX6_needs_76 ?_
            refine z_ieq (pc := 78) (tgt := 135) hc (by omega) (by decide) dX6_needs_78 (fun h78 => ?_) (fun h78 => ?_)
            · exfalso; omega
            · show zJW X 81 [(7, zI 1), (6, zI ((i32 : Nat) : Int)), (5, zI (neB (tsZ (M 39)) r c s i32)), (4, zI (mkZ s)), (0, zR 38), (1, zI r), (2, zI c), (3, zI s)] [] M
              refine z_ald (pc := 81) hc 4 rfl dX6_needs_81 ?_
              refine z_ild (pc := 82) hc 5 rfl dX6_needs_82 ?_
              refine z_ild (pc := 83) hc 6 rfl dX6_needs_83 ?_
              refine z_ilw (pc := 84) hc 1 rfl dX6_needs_84 ?_
              refine kc_X6_101 (pc := 86) hc rfl (zfitX (by decide) rfl rfl) rfl (Nat.le_of_ble_eq_true rfl) (ct_X6_isLandBeside M (by assumption) r (by omega) c (by omega) ((i32 : Nat) : Int) (by omega)) dX6_needs_86 ?_
              refine z_ilw (pc := 89) hc 3 rfl dX6_needs_89 ?_
              refine z_ilw (pc := 91) hc 1 rfl dX6_needs_91 ?_
              refine kc_X6_80 (pc := 93) hc rfl (zfit0 (by decide) rfl rfl) (Nat.le_of_ble_eq_true rfl) (ct_X6_bit M (mkZ s) ((i32 : Nat) : Int)) dX6_needs_93 ?_
              refine z_iconst (pc := 96) hc 1 dX6_needs_96 ?_
              refine z_cne (pc := 97) (tgt := 104) hc (by omega) (by decide) dX6_needs_97 (fun h97 => ?_) (fun h97 => ?_)
              · show zJW X 104 [(7, zI 1), (6, zI ((i32 : Nat) : Int)), (5, zI (neB (tsZ (M 39)) r c s i32)), (4, zI (mkZ s)), (0, zR 38), (1, zI r), (2, zI c), (3, zI s)] [zI (zbz (laT (tsZ (M 39)) (r + zrow ((i32 : Nat) : Int)) (c + zcol ((i32 : Nat) : Int))))] M
                refine z_iconst (pc := 104) hc 0 dX6_needs_104 ?_
                refine z_ceq (pc := 105) (tgt := 135) hc (by omega) (by decide) dX6_needs_105 (fun h105 => ?_) (fun h105 => ?_)
                · show zJW X 135 [(7, zI 1), (6, zI ((i32 : Nat) : Int)), (5, zI (neB (tsZ (M 39)) r c s i32)), (4, zI (mkZ s)), (0, zR 38), (1, zI r), (2, zI c), (3, zI s)] [] M
                  refine z_iinc (pc := 135) (lv' := [(6, zI (((i32 : Nat) : Int) + 1)), (7, zI 1), (5, zI (neB (tsZ (M 39)) r c s i32)), (4, zI (mkZ s)), (0, zR 38), (1, zI r), (2, zI c), (3, zI s)]) hc 1 rfl rfl (by decide) dX6_needs_135 ?_
                  refine z_goto (pc := 138) (tgt := 32) hc (by decide) dX6_needs_138 ?_
                  refine zJW_sub (lv' := [(6, zI (((i32 : Nat) : Int) + 1)), (5, zI (neB (tsZ (M 39)) r c s i32)), (4, zI (mkZ s)), (0, zR 38), (1, zI r), (2, zI c), (3, zI s)]) [0, 2, 3, 4, 5, 6, 7] rfl ?_
                  exact zJW_eq (by first | (rw [neB_y (by omega) (by omega) (zne1 (by omega)) h126]; rfl) | (rw [neB_n1 (by omega)]; rfl) | (rw [neB_n2 (zeq1 (by omega))]; rfl)) rfl (by rfl) (ih32 (by first | (rw [neB_y (by omega) (by omega) (zne1 (by omega)) h126]; omega) | (rw [neB_n1 (by omega)]; omega) | (rw [neB_n2 (zeq1 (by omega))]; omega)))
                · show zJW X 108 [(7, zI 1), (6, zI ((i32 : Nat) : Int)), (5, zI (neB (tsZ (M 39)) r c s i32)), (4, zI (mkZ s)), (0, zR 38), (1, zI r), (2, zI c), (3, zI s)] [] M
                  refine z_ald (pc := 108) hc 4 rfl dX6_needs_108 ?_
                  refine z_ild (pc := 109) hc 5 rfl dX6_needs_109 ?_
                  refine z_ilw (pc := 110) hc 1 rfl dX6_needs_110 ?_
                  refine kc_X6_84 (pc := 112) hc rfl (zfit0 (by decide) rfl rfl) (Nat.le_of_ble_eq_true rfl) (ct_X6_rowBy M ((i32 : Nat) : Int) (by omega)) dX6_needs_112 ?_
                  refine z_iadd (pc := 115) hc dX6_needs_115 ?_
                  refine z_ild (pc := 116) hc 6 rfl dX6_needs_116 ?_
                  refine z_ilw (pc := 117) hc 1 rfl dX6_needs_117 ?_
                  refine kc_X6_87 (pc := 119) hc rfl (zfit0 (by decide) rfl rfl) (Nat.le_of_ble_eq_true rfl) (ct_X6_columnBy M ((i32 : Nat) : Int) (by omega)) dX6_needs_119 ?_
                  refine z_iadd (pc := 122) hc dX6_needs_122 ?_
                  refine kc_X6_90 (pc := 123) hc rfl (zfitX (by decide) rfl rfl) rfl (Nat.le_of_ble_eq_true rfl) (ct_X6_isTile M (by assumption) (r + (zrow ((i32 : Nat) : Int))) (by omega) (c + (zcol ((i32 : Nat) : Int))) (by omega)) dX6_needs_123 ?_
                  refine z_bne (pc := 126) (tgt := 132) hc (by decide) dX6_needs_126 (fun h126 => ?_) (fun h126 => ?_)
                  · show zJW X 132 [(7, zI 1), (6, zI ((i32 : Nat) : Int)), (5, zI (neB (tsZ (M 39)) r c s i32)), (4, zI (mkZ s)), (0, zR 38), (1, zI r), (2, zI c), (3, zI s)] [] M
                    refine z_iinc (pc := 132) (lv' := [(5, zI ((neB (tsZ (M 39)) r c s i32) + 1)), (7, zI 1), (6, zI ((i32 : Nat) : Int)), (4, zI (mkZ s)), (0, zR 38), (1, zI r), (2, zI c), (3, zI s)]) hc 2 rfl rfl (by decide) dX6_needs_132 ?_
                    refine z_iinc (pc := 135) (lv' := [(6, zI (((i32 : Nat) : Int) + 1)), (5, zI ((neB (tsZ (M 39)) r c s i32) + 1)), (7, zI 1), (4, zI (mkZ s)), (0, zR 38), (1, zI r), (2, zI c), (3, zI s)]) hc 2 rfl rfl (by decide) dX6_needs_135 ?_
                    refine z_goto (pc := 138) (tgt := 32) hc (by decide) dX6_needs_138 ?_
                    refine zJW_sub (lv' := [(6, zI (((i32 : Nat) : Int) + 1)), (5, zI ((neB (tsZ (M 39)) r c s i32) + 1)), (4, zI (mkZ s)), (0, zR 38), (1, zI r), (2, zI c), (3, zI s)]) [0, 1, 3, 4, 5, 6, 7] rfl ?_
                    exact zJW_eq (by first | (rw [neB_y (by omega) (by omega) (zne1 (by omega)) h126]; rfl) | (rw [neB_n1 (by omega)]; rfl) | (rw [neB_n2 (zeq1 (by omega))]; rfl)) rfl (by rfl) (ih32 (by first | (rw [neB_y (by omega) (by omega) (zne1 (by omega)) h126]; omega) | (rw [neB_n1 (by omega)]; omega) | (rw [neB_n2 (zeq1 (by omega))]; omega)))
                  · show zJW X 129 [(7, zI 1), (6, zI ((i32 : Nat) : Int)), (5, zI (neB (tsZ (M 39)) r c s i32)), (4, zI (mkZ s)), (0, zR 38), (1, zI r), (2, zI c), (3, zI s)] [] M
                    refine z_bipush (pc := 129) hc (-6) (by decide) dX6_needs_129 ?_
                    exact z_iret (pc := 131) hc he rfl dX6_needs_131 (by refine ⟨congrArg some ?_, rfl⟩; rw [if_pos ⟨h6, hs'⟩]; exact (neB_stop hi32 (by omega) (by omega) (zne1 (by omega)) h126).symm)
              · show zJW X 100 [(7, zI 1), (6, zI ((i32 : Nat) : Int)), (5, zI (neB (tsZ (M 39)) r c s i32)), (4, zI (mkZ s)), (0, zR 38), (1, zI r), (2, zI c), (3, zI s)] [zI (zbz (laT (tsZ (M 39)) (r + zrow ((i32 : Nat) : Int)) (c + zcol ((i32 : Nat) : Int))))] M
                refine z_iconst (pc := 100) hc 1 dX6_needs_100 ?_
                refine z_goto (pc := 101) (tgt := 105) hc (by decide) dX6_needs_101 ?_
                refine z_ceq (pc := 105) (tgt := 135) hc (by omega) (by decide) dX6_needs_105 (fun h105 => ?_) (fun h105 => ?_)
                · show zJW X 135 [(7, zI 1), (6, zI ((i32 : Nat) : Int)), (5, zI (neB (tsZ (M 39)) r c s i32)), (4, zI (mkZ s)), (0, zR 38), (1, zI r), (2, zI c), (3, zI s)] [] M
                  refine z_iinc (pc := 135) (lv' := [(6, zI (((i32 : Nat) : Int) + 1)), (7, zI 1), (5, zI (neB (tsZ (M 39)) r c s i32)), (4, zI (mkZ s)), (0, zR 38), (1, zI r), (2, zI c), (3, zI s)]) hc 1 rfl rfl (by decide) dX6_needs_135 ?_
                  refine z_goto (pc := 138) (tgt := 32) hc (by decide) dX6_needs_138 ?_
                  refine zJW_sub (lv' := [(6, zI (((i32 : Nat) : Int) + 1)), (5, zI (neB (tsZ (M 39)) r c s i32)), (4, zI (mkZ s)), (0, zR 38), (1, zI r), (2, zI c), (3, zI s)]) [0, 2, 3, 4, 5, 6, 7] rfl ?_
                  exact zJW_eq (by first | (rw [neB_y (by omega) (by omega) (zne1 (by omega)) h126]; rfl) | (rw [neB_n1 (by omega)]; rfl) | (rw [neB_n2 (zeq1 (by omega))]; rfl)) rfl (by rfl) (ih32 (by first | (rw [neB_y (by omega) (by omega) (zne1 (by omega)) h126]; omega) | (rw [neB_n1 (by omega)]; omega) | (rw [neB_n2 (zeq1 (by omega))]; omega)))
                · show zJW X 108 [(7, zI 1), (6, zI ((i32 : Nat) : Int)), (5, zI (neB (tsZ (M 39)) r c s i32)), (4, zI (mkZ s)), (0, zR 38), (1, zI r), (2, zI c), (3, zI s)] [] M
                  refine z_ald (pc := 108) hc 4 rfl dX6_needs_108 ?_
                  refine z_ild (pc := 109) hc 5 rfl dX6_needs_109 ?_
                  refine z_ilw (pc := 110) hc 1 rfl dX6_needs_110 ?_
                  refine kc_X6_84 (pc := 112) hc rfl (zfit0 (by decide) rfl rfl) (Nat.le_of_ble_eq_true rfl) (ct_X6_rowBy M ((i32 : Nat) : Int) (by omega)) dX6_needs_112 ?_
                  refine z_iadd (pc := 115) hc dX6_needs_115 ?_
                  refine z_ild (pc := 116) hc 6 rfl dX6_needs_116 ?_
                  refine z_ilw (pc := 117) hc 1 rfl dX6_needs_117 ?_
                  refine kc_X6_87 (pc := 119) hc rfl (zfit0 (by decide) rfl rfl) (Nat.le_of_ble_eq_true rfl) (ct_X6_columnBy M ((i32 : Nat) : Int) (by omega)) dX6_needs_119 ?_
                  refine z_iadd (pc := 122) hc dX6_needs_122 ?_
                  refine kc_X6_90 (pc := 123) hc rfl (zfitX (by decide) rfl rfl) rfl (Nat.le_of_ble_eq_true rfl) (ct_X6_isTile M (by assumption) (r + (zrow ((i32 : Nat) : Int))) (by omega) (c + (zcol ((i32 : Nat) : Int))) (by omega)) dX6_needs_123 ?_
                  refine z_bne (pc := 126) (tgt := 132) hc (by decide) dX6_needs_126 (fun h126 => ?_) (fun h126 => ?_)
                  · show zJW X 132 [(7, zI 1), (6, zI ((i32 : Nat) : Int)), (5, zI (neB (tsZ (M 39)) r c s i32)), (4, zI (mkZ s)), (0, zR 38), (1, zI r), (2, zI c), (3, zI s)] [] M
                    refine z_iinc (pc := 132) (lv' := [(5, zI ((neB (tsZ (M 39)) r c s i32) + 1)), (7, zI 1), (6, zI ((i32 : Nat) : Int)), (4, zI (mkZ s)), (0, zR 38), (1, zI r), (2, zI c), (3, zI s)]) hc 2 rfl rfl (by decide) dX6_needs_132 ?_
                    refine z_iinc (pc := 135) (lv' := [(6, zI (((i32 : Nat) : Int) + 1)), (5, zI ((neB (tsZ (M 39)) r c s i32) + 1)), (7, zI 1), (4, zI (mkZ s)), (0, zR 38), (1, zI r), (2, zI c), (3, zI s)]) hc 2 rfl rfl (by decide) dX6_needs_135 ?_
                    refine z_goto (pc := 138) (tgt := 32) hc (by decide) dX6_needs_138 ?_
                    refine zJW_sub (lv' := [(6, zI (((i32 : Nat) : Int) + 1)), (5, zI ((neB (tsZ (M 39)) r c s i32) + 1)), (4, zI (mkZ s)), (0, zR 38), (1, zI r), (2, zI c), (3, zI s)]) [0, 1, 3, 4, 5, 6, 7] rfl ?_
                    exact zJW_eq (by first | (rw [neB_y (by omega) (by omega) (zne1 (by omega)) h126]; rfl) | (rw [neB_n1 (by omega)]; rfl) | (rw [neB_n2 (zeq1 (by omega))]; rfl)) rfl (by rfl) (ih32 (by first | (rw [neB_y (by omega) (by omega) (zne1 (by omega)) h126]; omega) | (rw [neB_n1 (by omega)]; omega) | (rw [neB_n2 (zeq1 (by omega))]; omega)))
                  · show zJW X 129 [(7, zI 1), (6, zI ((i32 : Nat) : Int)), (5, zI (neB (tsZ (M 39)) r c s i32)), (4, zI (mkZ s)), (0, zR 38), (1, zI r), (2, zI c), (3, zI s)] [] M
                    refine z_bipush (pc := 129) hc (-6) (by decide) dX6_needs_129 ?_
                    exact z_iret (pc := 131) hc he rfl dX6_needs_131 (by refine ⟨congrArg some ?_, rfl⟩; rw [if_pos ⟨h6, hs'⟩]; exact (neB_stop hi32 (by omega) (by omega) (zne1 (by omega)) h126).symm)
          · show zJW X 46 [(6, zI ((i32 : Nat) : Int)), (5, zI (neB (tsZ (M 39)) r c s i32)), (4, zI (mkZ s)), (0, zR 38), (1, zI r), (2, zI c), (3, zI s)] [] M
            refine z_ilw (pc := 46) hc 2 rfl dX6_needs_46 ?_
            refine z_ilw (pc := 48) hc 0 rfl dX6_needs_48 ?_
            refine z_iconst (pc := 50) hc 1 dX6_needs_50 ?_
            refine z_isub (pc := 51) hc dX6_needs_51 ?_
            refine kc_X6_80 (pc := 52) hc rfl (zfit0 (by decide) rfl rfl) (Nat.le_of_ble_eq_true rfl) (ct_X6_bit M (mkZ s) (((i32 : Nat) : Int) - 1)) dX6_needs_52 ?_
            refine z_ilw (pc := 55) hc 2 rfl dX6_needs_55 ?_
            refine z_ilw (pc := 57) hc 0 rfl dX6_needs_57 ?_
            refine z_iconst (pc := 59) hc 1 dX6_needs_59 ?_
            refine z_iadd (pc := 60) hc dX6_needs_60 ?_
            refine kc_X6_80 (pc := 61) hc rfl (zfit0 (by decide) rfl rfl) (Nat.le_of_ble_eq_true rfl) (ct_X6_bit M (mkZ s) (((i32 : Nat) : Int) + 1)) dX6_needs_61 ?_
            refine z_iadd (pc := 64) hc dX6_needs_64 ?_
            refine z_iconst (pc := 65) hc 2 dX6_needs_65 ?_
            refine z_cne (pc := 66) (tgt := 73) hc (by omega) (by decide) dX6_needs_66 (fun h66 => ?_) (fun h66 => ?_)
            · show zJW X 73 [(6, zI ((i32 : Nat) : Int)), (5, zI (neB (tsZ (M 39)) r c s i32)), (4, zI (mkZ s)), (0, zR 38), (1, zI r), (2, zI c), (3, zI s)] [] M
              refine z_iconst (pc := 73) hc 0 dX6_needs_73 ?_
              refine z_isw (pc := 74) (lv' := [(7, zI 0), (6, zI ((i32 : Nat) : Int)), (5, zI (neB (tsZ (M 39)) r c s i32)), (4, zI (mkZ s)), (0, zR 38), (1, zI r), (2, zI c), (3, zI s)]) hc rfl (by decide) dX6_needs_74 ?_
              refine z_ilw (pc := 76) hc 0 rfl dX6_needs_76 ?_
              refine z_ieq (pc := 78) (tgt := 135) hc (by omega) (by decide) dX6_needs_78 (fun h78 => ?_) (fun h78 => ?_)
              · show zJW X 135 [(7, zI 0), (6, zI ((i32 : Nat) : Int)), (5, zI (neB (tsZ (M 39)) r c s i32)), (4, zI (mkZ s)), (0, zR 38), (1, zI r), (2, zI c), (3, zI s)] [] M
                refine z_iinc (pc := 135) (lv' := [(6, zI (((i32 : Nat) : Int) + 1)), (7, zI 0), (5, zI (neB (tsZ (M 39)) r c s i32)), (4, zI (mkZ s)), (0, zR 38), (1, zI r), (2, zI c), (3, zI s)]) hc 1 rfl rfl (by decide) dX6_needs_135 ?_
                refine z_goto (pc := 138) (tgt := 32) hc (by decide) dX6_needs_138 ?_
                refine zJW_sub (lv' := [(6, zI (((i32 : Nat) : Int) + 1)), (5, zI (neB (tsZ (M 39)) r c s i32)), (4, zI (mkZ s)), (0, zR 38), (1, zI r), (2, zI c), (3, zI s)]) [0, 2, 3, 4, 5, 6, 7] rfl ?_
                exact zJW_eq (by first | (rw [neB_y (by omega) (by omega) (zne1 (by omega)) h126]; rfl) | (rw [neB_n1 (by omega)]; rfl) | (rw [neB_n2 (zeq1 (by omega))]; rfl)) rfl (by rfl) (ih32 (by first | (rw [neB_y (by omega) (by omega) (zne1 (by omega)) h126]; omega) | (rw [neB_n1 (by omega)]; omega) | (rw [neB_n2 (zeq1 (by omega))]; omega)))
              · exfalso; omega
            · show zJW X 69 [(6, zI ((i32 : Nat) : Int)), (5, zI (neB (tsZ (M 39)) r c s i32)), (4, zI (mkZ s)), (0, zR 38), (1, zI r), (2, zI c), (3, zI s)] [] M
              refine z_iconst (pc := 69) hc 1 dX6_needs_69 ?_
              refine z_goto (pc := 70) (tgt := 74) hc (by decide) dX6_needs_70 ?_
              refine z_isw (pc := 74) (lv' := [(7, zI 1), (6, zI ((i32 : Nat) : Int)), (5, zI (neB (tsZ (M 39)) r c s i32)), (4, zI (mkZ s)), (0, zR 38), (1, zI r), (2, zI c), (3, zI s)]) hc rfl (by decide) dX6_needs_74 ?_
              refine z_ilw (pc := 76) hc 0 rfl dX6_needs_76 ?_
              refine z_ieq (pc := 78) (tgt := 135) hc (by omega) (by decide) dX6_needs_78 (fun h78 => ?_) (fun h78 => ?_)
              · exfalso; omega
              · show zJW X 81 [(7, zI 1), (6, zI ((i32 : Nat) : Int)), (5, zI (neB (tsZ (M 39)) r c s i32)), (4, zI (mkZ s)), (0, zR 38), (1, zI r), (2, zI c), (3, zI s)] [] M
                refine z_ald (pc := 81) hc 4 rfl dX6_needs_81 ?_
                refine z_ild (pc := 82) hc 5 rfl dX6_needs_82 ?_
                refine z_ild (pc := 83) hc 6 rfl dX6_needs_83 ?_
                refine z_ilw (pc := 84) hc 1 rfl dX6_needs_84 ?_
                refine kc_X6_101 (pc := 86) hc rfl (zfitX (by decide) rfl rfl) rfl (Nat.le_of_ble_eq_true rfl) (ct_X6_isLandBeside M (by assumption) r (by omega) c (by omega) ((i32 : Nat) : Int) (by omega)) dX6_needs_86 ?_
                refine z_ilw (pc := 89) hc 3 rfl dX6_needs_89 ?_
                refine z_ilw (pc := 91) hc 1 rfl dX6_needs_91 ?_
                refine kc_X6_80 (pc := 93) hc rfl (zfit0 (by decide) rfl rfl) (Nat.le_of_ble_eq_true rfl) (ct_X6_bit M (mkZ s) ((i32 : Nat) : Int)) dX6_needs_93 ?_
                refine z_iconst (pc := 96) hc 1 dX6_needs_96 ?_
                refine z_cne (pc := 97) (tgt := 104) hc (by omega) (by decide) dX6_needs_97 (fun h97 => ?_) (fun h97 => ?_)
                · show zJW X 104 [(7, zI 1), (6, zI ((i32 : Nat) : Int)), (5, zI (neB (tsZ (M 39)) r c s i32)), (4, zI (mkZ s)), (0, zR 38), (1, zI r), (2, zI c), (3, zI s)] [zI (zbz (laT (tsZ (M 39)) (r + zrow ((i32 : Nat) : Int)) (c + zcol ((i32 : Nat) : Int))))] M
                  refine z_iconst (pc := 104) hc 0 dX6_needs_104 ?_
                  refine z_ceq (pc := 105) (tgt := 135) hc (by omega) (by decide) dX6_needs_105 (fun h105 => ?_) (fun h105 => ?_)
                  · show zJW X 135 [(7, zI 1), (6, zI ((i32 : Nat) : Int)), (5, zI (neB (tsZ (M 39)) r c s i32)), (4, zI (mkZ s)), (0, zR 38), (1, zI r), (2, zI c), (3, zI s)] [] M
                    refine z_iinc (pc := 135) (lv' := [(6, zI (((i32 : Nat) : Int) + 1)), (7, zI 1), (5, zI (neB (tsZ (M 39)) r c s i32)), (4, zI (mkZ s)), (0, zR 38), (1, zI r), (2, zI c), (3, zI s)]) hc 1 rfl rfl (by decide) dX6_needs_135 ?_
                    refine z_goto (pc := 138) (tgt := 32) hc (by decide) dX6_needs_138 ?_
                    refine zJW_sub (lv' := [(6, zI (((i32 : Nat) : Int) + 1)), (5, zI (neB (tsZ (M 39)) r c s i32)), (4, zI (mkZ s)), (0, zR 38), (1, zI r), (2, zI c), (3, zI s)]) [0, 2, 3, 4, 5, 6, 7] rfl ?_
                    exact zJW_eq (by first | (rw [neB_y (by omega) (by omega) (zne1 (by omega)) h126]; rfl) | (rw [neB_n1 (by omega)]; rfl) | (rw [neB_n2 (zeq1 (by omega))]; rfl)) rfl (by rfl) (ih32 (by first | (rw [neB_y (by omega) (by omega) (zne1 (by omega)) h126]; omega) | (rw [neB_n1 (by omega)]; omega) | (rw [neB_n2 (zeq1 (by omega))]; omega)))
                  · show zJW X 108 [(7, zI 1), (6, zI ((i32 : Nat) : Int)), (5, zI (neB (tsZ (M 39)) r c s i32)), (4, zI (mkZ s)), (0, zR 38), (1, zI r), (2, zI c), (3, zI s)] [] M
                    refine z_ald (pc := 108) hc 4 rfl dX6_needs_108 ?_
                    refine z_ild (pc := 109) hc 5 rfl dX6_needs_109 ?_
                    refine z_ilw (pc := 110) hc 1 rfl dX6_needs_110 ?_
                    refine kc_X6_84 (pc := 112) hc rfl (zfit0 (by decide) rfl rfl) (Nat.le_of_ble_eq_true rfl) (ct_X6_rowBy M ((i32 : Nat) : Int) (by omega)) dX6_needs_112 ?_
                    refine z_iadd (pc := 115) hc dX6_needs_115 ?_
                    refine z_ild (pc := 116) hc 6 rfl dX6_needs_116 ?_
                    refine z_ilw (pc := 117) hc 1 rfl dX6_needs_117 ?_
                    refine kc_X6_87 (pc := 119) hc rfl (zfit0 (by decide) rfl rfl) (Nat.le_of_ble_eq_true rfl) (ct_X6_columnBy M ((i32 : Nat) : Int) (by omega)) dX6_needs_119 ?_
                    refine z_iadd (pc := 122) hc dX6_needs_122 ?_
                    refine kc_X6_90 (pc := 123) hc rfl (zfitX (by decide) rfl rfl) rfl (Nat.le_of_ble_eq_true rfl) (ct_X6_isTile M (by assumption) (r + (zrow ((i32 : Nat) : Int))) (by omega) (c + (zcol ((i32 : Nat) : Int))) (by omega)) dX6_needs_123 ?_
                    refine z_bne (pc := 126) (tgt := 132) hc (by decide) dX6_needs_126 (fun h126 => ?_) (fun h126 => ?_)
                    · show zJW X 132 [(7, zI 1), (6, zI ((i32 : Nat) : Int)), (5, zI (neB (tsZ (M 39)) r c s i32)), (4, zI (mkZ s)), (0, zR 38), (1, zI r), (2, zI c), (3, zI s)] [] M
                      refine z_iinc (pc := 132) (lv' := [(5, zI ((neB (tsZ (M 39)) r c s i32) + 1)), (7, zI 1), (6, zI ((i32 : Nat) : Int)), (4, zI (mkZ s)), (0, zR 38), (1, zI r), (2, zI c), (3, zI s)]) hc 2 rfl rfl (by decide) dX6_needs_132 ?_
                      refine z_iinc (pc := 135) (lv' := [(6, zI (((i32 : Nat) : Int) + 1)), (5, zI ((neB (tsZ (M 39)) r c s i32) + 1)), (7, zI 1), (4, zI (mkZ s)), (0, zR 38), (1, zI r), (2, zI c), (3, zI s)]) hc 2 rfl rfl (by decide) dX6_needs_135 ?_
                      refine z_goto (pc := 138) (tgt := 32) hc (by decide) dX6_needs_138 ?_
                      refine zJW_sub (lv' := [(6, zI (((i32 : Nat) : Int) + 1)), (5, zI ((neB (tsZ (M 39)) r c s i32) + 1)), (4, zI (mkZ s)), (0, zR 38), (1, zI r), (2, zI c), (3, zI s)]) [0, 1, 3, 4, 5, 6, 7] rfl ?_
                      exact zJW_eq (by first | (rw [neB_y (by omega) (by omega) (zne1 (by omega)) h126]; rfl) | (rw [neB_n1 (by omega)]; rfl) | (rw [neB_n2 (zeq1 (by omega))]; rfl)) rfl (by rfl) (ih32 (by first | (rw [neB_y (by omega) (by omega) (zne1 (by omega)) h126]; omega) | (rw [neB_n1 (by omega)]; omega) | (rw [neB_n2 (zeq1 (by omega))]; omega)))
                    · show zJW X 129 [(7, zI 1), (6, zI ((i32 : Nat) : Int)), (5, zI (neB (tsZ (M 39)) r c s i32)), (4, zI (mkZ s)), (0, zR 38), (1, zI r), (2, zI c), (3, zI s)] [] M
                      refine z_bipush (pc := 129) hc (-6) (by decide) dX6_needs_129 ?_
                      exact z_iret (pc := 131) hc he rfl dX6_needs_131 (by refine ⟨congrArg some ?_, rfl⟩; rw [if_pos ⟨h6, hs'⟩]; exact (neB_stop hi32 (by omega) (by omega) (zne1 (by omega)) h126).symm)
                · show zJW X 100 [(7, zI 1), (6, zI ((i32 : Nat) : Int)), (5, zI (neB (tsZ (M 39)) r c s i32)), (4, zI (mkZ s)), (0, zR 38), (1, zI r), (2, zI c), (3, zI s)] [zI (zbz (laT (tsZ (M 39)) (r + zrow ((i32 : Nat) : Int)) (c + zcol ((i32 : Nat) : Int))))] M
                  refine z_iconst (pc := 100) hc 1 dX6_needs_100 ?_
                  refine z_goto (pc := 101) (tgt := 105) hc (by decide) dX6_needs_101 ?_
                  refine z_ceq (pc := 105) (tgt := 135) hc (by omega) (by decide) dX6_needs_105 (fun h105 => ?_) (fun h105 => ?_)
                  · show zJW X 135 [(7, zI 1), (6, zI ((i32 : Nat) : Int)), (5, zI (neB (tsZ (M 39)) r c s i32)), (4, zI (mkZ s)), (0, zR 38), (1, zI r), (2, zI c), (3, zI s)] [] M
                    refine z_iinc (pc := 135) (lv' := [(6, zI (((i32 : Nat) : Int) + 1)), (7, zI 1), (5, zI (neB (tsZ (M 39)) r c s i32)), (4, zI (mkZ s)), (0, zR 38), (1, zI r), (2, zI c), (3, zI s)]) hc 1 rfl rfl (by decide) dX6_needs_135 ?_
                    refine z_goto (pc := 138) (tgt := 32) hc (by decide) dX6_needs_138 ?_
                    refine zJW_sub (lv' := [(6, zI (((i32 : Nat) : Int) + 1)), (5, zI (neB (tsZ (M 39)) r c s i32)), (4, zI (mkZ s)), (0, zR 38), (1, zI r), (2, zI c), (3, zI s)]) [0, 2, 3, 4, 5, 6, 7] rfl ?_
                    exact zJW_eq (by first | (rw [neB_y (by omega) (by omega) (zne1 (by omega)) h126]; rfl) | (rw [neB_n1 (by omega)]; rfl) | (rw [neB_n2 (zeq1 (by omega))]; rfl)) rfl (by rfl) (ih32 (by first | (rw [neB_y (by omega) (by omega) (zne1 (by omega)) h126]; omega) | (rw [neB_n1 (by omega)]; omega) | (rw [neB_n2 (zeq1 (by omega))]; omega)))
                  · show zJW X 108 [(7, zI 1), (6, zI ((i32 : Nat) : Int)), (5, zI (neB (tsZ (M 39)) r c s i32)), (4, zI (mkZ s)), (0, zR 38), (1, zI r), (2, zI c), (3, zI s)] [] M
                    refine z_ald (pc := 108) hc 4 rfl dX6_needs_108 ?_
                    refine z_ild (pc := 109) hc 5 rfl dX6_needs_109 ?_
                    refine z_ilw (pc := 110) hc 1 rfl dX6_needs_110 ?_
                    refine kc_X6_84 (pc := 112) hc rfl (zfit0 (by decide) rfl rfl) (Nat.le_of_ble_eq_true rfl) (ct_X6_rowBy M ((i32 : Nat) : Int) (by omega)) dX6_needs_112 ?_
                    refine z_iadd (pc := 115) hc dX6_needs_115 ?_
                    refine z_ild (pc := 116) hc 6 rfl dX6_needs_116 ?_
                    refine z_ilw (pc := 117) hc 1 rfl dX6_needs_117 ?_
                    refine kc_X6_87 (pc := 119) hc rfl (zfit0 (by decide) rfl rfl) (Nat.le_of_ble_eq_true rfl) (ct_X6_columnBy M ((i32 : Nat) : Int) (by omega)) dX6_needs_119 ?_
                    refine z_iadd (pc := 122) hc dX6_needs_122 ?_
                    refine kc_X6_90 (pc := 123) hc rfl (zfitX (by decide) rfl rfl) rfl (Nat.le_of_ble_eq_true rfl) (ct_X6_isTile M (by assumption) (r + (zrow ((i32 : Nat) : Int))) (by omega) (c + (zcol ((i32 : Nat) : Int))) (by omega)) dX6_needs_123 ?_
                    refine z_bne (pc := 126) (tgt := 132) hc (by decide) dX6_needs_126 (fun h126 => ?_) (fun h126 => ?_)
                    · show zJW X 132 [(7, zI 1), (6, zI ((i32 : Nat) : Int)), (5, zI (neB (tsZ (M 39)) r c s i32)), (4, zI (mkZ s)), (0, zR 38), (1, zI r), (2, zI c), (3, zI s)] [] M
                      refine z_iinc (pc := 132) (lv' := [(5, zI ((neB (tsZ (M 39)) r c s i32) + 1)), (7, zI 1), (6, zI ((i32 : Nat) : Int)), (4, zI (mkZ s)), (0, zR 38), (1, zI r), (2, zI c), (3, zI s)]) hc 2 rfl rfl (by decide) dX6_needs_132 ?_
                      refine z_iinc (pc := 135) (lv' := [(6, zI (((i32 : Nat) : Int) + 1)), (5, zI ((neB (tsZ (M 39)) r c s i32) + 1)), (7, zI 1), (4, zI (mkZ s)), (0, zR 38), (1, zI r), (2, zI c), (3, zI s)]) hc 2 rfl rfl (by decide) dX6_needs_135 ?_
                      refine z_goto (pc := 138) (tgt := 32) hc (by decide) dX6_needs_138 ?_
                      refine zJW_sub (lv' := [(6, zI (((i32 : Nat) : Int) + 1)), (5, zI ((neB (tsZ (M 39)) r c s i32) + 1)), (4, zI (mkZ s)), (0, zR 38), (1, zI r), (2, zI c), (3, zI s)]) [0, 1, 3, 4, 5, 6, 7] rfl ?_
                      exact zJW_eq (by first | (rw [neB_y (by omega) (by omega) (zne1 (by omega)) h126]; rfl) | (rw [neB_n1 (by omega)]; rfl) | (rw [neB_n2 (zeq1 (by omega))]; rfl)) rfl (by rfl) (ih32 (by first | (rw [neB_y (by omega) (by omega) (zne1 (by omega)) h126]; omega) | (rw [neB_n1 (by omega)]; omega) | (rw [neB_n2 (zeq1 (by omega))]; omega)))
                    · show zJW X 129 [(7, zI 1), (6, zI ((i32 : Nat) : Int)), (5, zI (neB (tsZ (M 39)) r c s i32)), (4, zI (mkZ s)), (0, zR 38), (1, zI r), (2, zI c), (3, zI s)] [] M
                      refine z_bipush (pc := 129) hc (-6) (by decide) dX6_needs_129 ?_
                      exact z_iret (pc := 131) hc he rfl dX6_needs_131 (by refine ⟨congrArg some ?_, rfl⟩; rw [if_pos ⟨h6, hs'⟩]; exact (neB_stop hi32 (by omega) (by omega) (zne1 (by omega)) h126).symm)
    · show zJW X 16 [(0, zR 38), (1, zI r), (2, zI c), (3, zI s)] [] M
      refine z_iconst (pc := 16) hc (-1) dX6_needs_16 ?_
      exact z_iret (pc := 17) hc he rfl dX6_needs_17 (by refine ⟨congrArg some ?_, rfl⟩; refine (if_neg (fun h => ?_)).symm; first | (rw [h6] at h; exact absurd h.1 (by decide)) | (have h13 := of_decide_eq_false h13; omega))

set_option maxRecDepth 100000 in
set_option maxHeartbeats 4000000 in
theorem ct_X6_coastIfChanged (M : Mem) (hZ : zRf (M 39)) (r : Int) (hb_r : -2147483648 ≤ r ∧ r < 2147483648) (c : Int) (hb_c : -2147483648 ≤ c ∧ c < 2147483648)  : zCt yX6_coastIfChanged KX6_coastIfChanged [zR 38, zI r, zI c] M (fun zv zM => zv = some (if inT (tsZ (M 39)) r c = true then coB (tsZ ((zup M 39 (3 + (M 39 1 * r + c)) (1 - M 39 (3 + (M 39 1 * r + c)))) 39)) - coB (tsZ (M 39)) + 100 else -1) ∧ zM = M) := by
  obtain ⟨hs1, hs2, hs3, hs4, hs5, hs6, hs7⟩ := id hZ
  have hw9 := zhw hs1 hs2 hs3 hs4
  refine z_met (by decide) rfl (Nat.le_of_ble_eq_true rfl) (fun X hc he => ?_)
  show zJW X 0 [(0, zR 38), (1, zI r), (2, zI c)] [] M
  refine z_ald (pc := 0) hc 0 rfl dX6_coastIfChanged_0 ?_
  refine z_ild (pc := 1) hc 1 rfl dX6_coastIfChanged_1 ?_
  refine z_ild (pc := 2) hc 2 rfl dX6_coastIfChanged_2 ?_
  refine kc_X6_90 (pc := 3) hc rfl (zfitX (by decide) rfl rfl) rfl (Nat.le_of_ble_eq_true rfl) (ct_X6_isTile M (by assumption) r (by omega) c (by omega)) dX6_coastIfChanged_3 ?_
  refine z_bne (pc := 6) (tgt := 11) hc (by decide) dX6_coastIfChanged_6 (fun h6 => ?_) (fun h6 => ?_)
  · show zJW X 11 [(0, zR 38), (1, zI r), (2, zI c)] [] M
    have h6' := h6
    rw [inT_Z] at h6'
    have h6' := of_decide_eq_true h6'
    have ix := zix ⟨h6'.1, h6'.2.1⟩ ⟨h6'.2.2.1, h6'.2.2.2⟩
    have ixk : 0 ≤ (M 39 1 * r + c) ∧ (M 39 1 * r + c) < M 39 0 * M 39 1 := ⟨ix.1, ix.2.1⟩
    have hlk := laT_k hZ ixk
    have hpk := piT_k hZ ixk
    rw [ix.2.2.1, ix.2.2.2] at hlk hpk
    have hl6 := hs6 (M 39 1 * r + c) ix.1 (by omega)
    have hZ1 : zRf ((zup M 39 (3 + (M 39 1 * r + c)) (1 - M 39 (3 + (M 39 1 * r + c)))) 39) := zRf_flip hZ ixk
    refine z_ald (pc := 11) hc 0 rfl dX6_coastIfChanged_11 ?_
    refine z_ild (pc := 12) hc 1 rfl dX6_coastIfChanged_12 ?_
    refine z_ild (pc := 13) hc 2 rfl dX6_coastIfChanged_13 ?_
    refine kc_X6_94 (pc := 14) hc rfl (zfitX (by decide) rfl rfl) rfl (Nat.le_of_ble_eq_true rfl) (ct_X6_at M r c) dX6_coastIfChanged_14 ?_
    refine z_ist (pc := 17) (lv' := [(3, zI (M 39 1 * r + c)), (0, zR 38), (1, zI r), (2, zI c)]) hc rfl (by decide) dX6_coastIfChanged_17 ?_
    refine z_ald (pc := 18) hc 1 rfl dX6_coastIfChanged_18 ?_
    refine kc_X6_173 (pc := 19) hc rfl (zfitX (by decide) rfl rfl) rfl (Nat.le_of_ble_eq_true rfl) (ct_X6_coast M (by assumption) ) dX6_coastIfChanged_19 ?_
    refine z_isw (pc := 22) (lv' := [(4, zI (coB (tsZ (M 39)))), (3, zI (M 39 1 * r + c)), (0, zR 38), (1, zI r), (2, zI c)]) hc rfl (by decide) dX6_coastIfChanged_22 ?_
    refine z_ald (pc := 24) hc 2 rfl dX6_coastIfChanged_24 ?_
    refine fg_X6_7 (pc := 25) hc rfl rfl dX6_coastIfChanged_25 ?_
    refine z_iconst (pc := 28) hc 3 dX6_coastIfChanged_28 ?_
    refine z_ild (pc := 29) hc 1 rfl dX6_coastIfChanged_29 ?_
    refine z_iadd (pc := 30) hc dX6_coastIfChanged_30 ?_
    refine z_iconst (pc := 31) hc 1 dX6_coastIfChanged_31 ?_
    refine z_ald (pc := 32) hc 2 rfl dX6_coastIfChanged_32 ?_
    refine fg_X6_7 (pc := 33) hc rfl rfl dX6_coastIfChanged_33 ?_
    refine z_iconst (pc := 36) hc 3 dX6_coastIfChanged_36 ?_
    refine z_ild (pc := 37) hc 1 rfl dX6_coastIfChanged_37 ?_
    refine z_iadd (pc := 38) hc dX6_coastIfChanged_38 ?_
    refine z_iald (pc := 39) hc rfl rfl rfl (by decide) (by omega) dX6_coastIfChanged_39 ?_
    refine z_isub (pc := 40) hc dX6_coastIfChanged_40 ?_
    refine z_iast (pc := 41) hc rfl rfl rfl (by decide) (by omega) dX6_coastIfChanged_41 ?_
    refine z_ald (pc := 42) hc 2 rfl dX6_coastIfChanged_42 ?_
    refine kc_X6_173 (pc := 43) hc rfl (zfitX (by decide) rfl rfl) rfl (Nat.le_of_ble_eq_true rfl) (ct_X6_coast (zup M 39 (3 + (M 39 1 * r + c)) (1 - (M 39 (3 + (M 39 1 * r + c))))) (by assumption) ) dX6_coastIfChanged_43 ?_
    refine z_isw (pc := 46) (lv' := [(5, zI (coB (tsZ ((zup M 39 (3 + (M 39 1 * r + c)) (1 - (M 39 (3 + (M 39 1 * r + c))))) 39)))), (4, zI (coB (tsZ (M 39)))), (3, zI (M 39 1 * r + c)), (0, zR 38), (1, zI r), (2, zI c)]) hc rfl (by decide) dX6_coastIfChanged_46 ?_
    refine z_ald (pc := 48) hc 3 rfl dX6_coastIfChanged_48 ?_
    refine fg_X6_7 (pc := 49) hc rfl rfl dX6_coastIfChanged_49 ?_
    refine z_iconst (pc := 52) hc 3 dX6_coastIfChanged_52 ?_
    refine z_ild (pc := 53) hc 2 rfl dX6_coastIfChanged_53 ?_
    refine z_iadd (pc := 54) hc dX6_coastIfChanged_54 ?_
    refine z_iconst (pc := 55) hc 1 dX6_coastIfChanged_55 ?_
    refine z_ald (pc := 56) hc 3 rfl dX6_coastIfChanged_56 ?_
    refine fg_X6_7 (pc := 57) hc rfl rfl dX6_coastIfChanged_57 ?_
    refine z_iconst (pc := 60) hc 3 dX6_coastIfChanged_60 ?_
    refine z_ild (pc := 61) hc 2 rfl dX6_coastIfChanged_61 ?_
    refine z_iadd (pc := 62) hc dX6_coastIfChanged_62 ?_
    refine z_iald (pc := 63) hc rfl rfl rfl (by decide) (by omega) dX6_coastIfChanged_63 ?_
    refine z_isub (pc := 64) hc dX6_coastIfChanged_64 ?_
    refine z_iast (pc := 65) hc rfl rfl rfl (by decide) (by omega) dX6_coastIfChanged_65 ?_
    rw [zup_flip]
    refine z_ilw (pc := 66) hc 0 rfl dX6_coastIfChanged_66 ?_
    refine z_ilw (pc := 68) hc 1 rfl dX6_coastIfChanged_68 ?_
    refine z_isub (pc := 70) hc dX6_coastIfChanged_70 ?_
    refine z_bipush (pc := 71) hc 100 (by decide) dX6_coastIfChanged_71 ?_
    refine z_iadd (pc := 73) hc dX6_coastIfChanged_73 ?_
    exact z_iret (pc := 74) hc he rfl dX6_coastIfChanged_74 (by refine ⟨congrArg some ?_, rfl⟩; rw [if_pos h6])
  · show zJW X 9 [(0, zR 38), (1, zI r), (2, zI c)] [] M
    refine z_iconst (pc := 9) hc (-1) dX6_coastIfChanged_9 ?_
    exact z_iret (pc := 10) hc he rfl dX6_coastIfChanged_10 (by refine ⟨congrArg some ?_, rfl⟩; rw [h6]; rfl)
