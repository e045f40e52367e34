set_option maxRecDepth 100000 in
set_option maxHeartbeats 4000000 in
theorem ct_J6_bitCount_0f7a4 (M : Mem) (x : Int) (hx : 0 ≤ x ∧ x < 256) : zCt yJ6_bitCount_0f7a4 KJ6_bitCount_0f7a4 [zI x] M (fun zv zM => zv = some (bcZ x) ∧ zM = M) := by
  refine z_met (by decide) rfl (Nat.le_of_ble_eq_true rfl) (fun X hc he => ?_)
  show zJW X 0 [(0, zI x)] [] M
  refine z_ild (pc := 0) hc 0 rfl dJ6_bitCount_0f7a4_0 ?_
  refine z_ild (pc := 1) hc 0 rfl dJ6_bitCount_0f7a4_1 ?_
  refine z_iconst (pc := 2) hc 1 dJ6_bitCount_0f7a4_2 ?_
  refine z_iushr (pc := 3) hc dJ6_bitCount_0f7a4_3 ?_
  refine z_ldcw (pc := 4) hc 1431655765 (List.mem_filter.mpr ⟨List.mem_of_getElem? (i := 316) (by decide +kernel), rfl⟩) dJ6_bitCount_0f7a4_4 ?_
  refine z_iand (pc := 7) hc dJ6_bitCount_0f7a4_7 ?_
  refine z_isub (pc := 8) hc dJ6_bitCount_0f7a4_8 ?_
  refine z_ist (pc := 9) (lv' := [(0, zI (x - (zan (zus x 1) 1431655765)))]) hc rfl (by decide) dJ6_bitCount_0f7a4_9 ?_
  refine z_ild (pc := 10) hc 0 rfl dJ6_bitCount_0f7a4_10 ?_
  refine z_ldcw (pc := 11) hc 858993459 (List.mem_filter.mpr ⟨List.mem_of_getElem? (i := 317) (by decide +kernel), rfl⟩) dJ6_bitCount_0f7a4_11 ?_
  refine z_iand (pc := 14) hc dJ6_bitCount_0f7a4_14 ?_
  refine z_ild (pc := 15) hc 0 rfl dJ6_bitCount_0f7a4_15 ?_
  refine z_iconst (pc := 16) hc 2 dJ6_bitCount_0f7a4_16 ?_
  refine z_iushr (pc := 17) hc dJ6_bitCount_0f7a4_17 ?_
  refine z_ldcw (pc := 18) hc 858993459 (List.mem_filter.mpr ⟨List.mem_of_getElem? (i := 317) (by decide +kernel), rfl⟩) dJ6_bitCount_0f7a4_18 ?_
  refine z_iand (pc := 21) hc dJ6_bitCount_0f7a4_21 ?_
  refine z_iadd (pc := 22) hc dJ6_bitCount_0f7a4_22 ?_
  refine z_ist (pc := 23) (lv' := [(0, zI ((zan (x - (zan (zus x 1) 1431655765)) 858993459) + (zan (zus (x - (zan (zus x 1) 1431655765)) 2) 858993459)))]) hc rfl (by decide) dJ6_bitCount_0f7a4_23 ?_
  refine z_ild (pc := 24) hc 0 rfl dJ6_bitCount_0f7a4_24 ?_
  refine z_ild (pc := 25) hc 0 rfl dJ6_bitCount_0f7a4_25 ?_
  refine z_iconst (pc := 26) hc 4 dJ6_bitCount_0f7a4_26 ?_
  refine z_iushr (pc := 27) hc dJ6_bitCount_0f7a4_27 ?_
  refine z_iadd (pc := 28) hc dJ6_bitCount_0f7a4_28 ?_
  refine z_ldcw (pc := 29) hc 252645135 (List.mem_filter.mpr ⟨List.mem_of_getElem? (i := 318) (by decide +kernel), rfl⟩) dJ6_bitCount_0f7a4_29 ?_
  refine z_iand (pc := 32) hc dJ6_bitCount_0f7a4_32 ?_
  refine z_ist (pc := 33) (lv' := [(0, zI (zan (((zan (x - (zan (zus x 1) 1431655765)) 858993459) + (zan (zus (x - (zan (zus x 1) 1431655765)) 2) 858993459)) + (zus ((zan (x - (zan (zus x 1) 1431655765)) 858993459) + (zan (zus (x - (zan (zus x 1) 1431655765)) 2) 858993459)) 4)) 252645135))]) hc rfl (by decide) dJ6_bitCount_0f7a4_33 ?_
  refine z_ild (pc := 34) hc 0 rfl dJ6_bitCount_0f7a4_34 ?_
  refine z_ild (pc := 35) hc 0 rfl dJ6_bitCount_0f7a4_35 ?_
  refine z_bipush (pc := 36) hc 8 (by decide) dJ6_bitCount_0f7a4_36 ?_
  refine z_iushr (pc := 38) hc dJ6_bitCount_0f7a4_38 ?_
  refine z_iadd (pc := 39) hc dJ6_bitCount_0f7a4_39 ?_
  refine z_ist (pc := 40) (lv' := [(0, zI ((zan (((zan (x - (zan (zus x 1) 1431655765)) 858993459) + (zan (zus (x - (zan (zus x 1) 1431655765)) 2) 858993459)) + (zus ((zan (x - (zan (zus x 1) 1431655765)) 858993459) + (zan (zus (x - (zan (zus x 1) 1431655765)) 2) 858993459)) 4)) 252645135) + (zus (zan (((zan (x - (zan (zus x 1) 1431655765)) 858993459) + (zan (zus (x - (zan (zus x 1) 1431655765)) 2) 858993459)) + (zus ((zan (x - (zan (zus x 1) 1431655765)) 858993459) + (zan (zus (x - (zan (zus x 1) 1431655765)) 2) 858993459)) 4)) 252645135) 8)))]) hc rfl (by decide) dJ6_bitCount_0f7a4_40 ?_
  refine z_ild (pc := 41) hc 0 rfl dJ6_bitCount_0f7a4_41 ?_
  refine z_ild (pc := 42) hc 0 rfl dJ6_bitCount_0f7a4_42 ?_
  refine z_bipush (pc := 43) hc 16 (by decide) dJ6_bitCount_0f7a4_43 ?_
  refine z_iushr (pc := 45) hc dJ6_bitCount_0f7a4_45 ?_
  refine z_iadd (pc := 46) hc dJ6_bitCount_0f7a4_46 ?_
  refine z_ist (pc := 47) (lv' := [(0, zI (((zan (((zan (x - (zan (zus x 1) 1431655765)) 858993459) + (zan (zus (x - (zan (zus x 1) 1431655765)) 2) 858993459)) + (zus ((zan (x - (zan (zus x 1) 1431655765)) 858993459) + (zan (zus (x - (zan (zus x 1) 1431655765)) 2) 858993459)) 4)) 252645135) + (zus (zan (((zan (x - (zan (zus x 1) 1431655765)) 858993459) + (zan (zus (x - (zan (zus x 1) 1431655765)) 2) 858993459)) + (zus ((zan (x - (zan (zus x 1) 1431655765)) 858993459) + (zan (zus (x - (zan (zus x 1) 1431655765)) 2) 858993459)) 4)) 252645135) 8)) + (zus ((zan (((zan (x - (zan (zus x 1) 1431655765)) 858993459) + (zan (zus (x - (zan (zus x 1) 1431655765)) 2) 858993459)) + (zus ((zan (x - (zan (zus x 1) 1431655765)) 858993459) + (zan (zus (x - (zan (zus x 1) 1431655765)) 2) 858993459)) 4)) 252645135) + (zus (zan (((zan (x - (zan (zus x 1) 1431655765)) 858993459) + (zan (zus (x - (zan (zus x 1) 1431655765)) 2) 858993459)) + (zus ((zan (x - (zan (zus x 1) 1431655765)) 858993459) + (zan (zus (x - (zan (zus x 1) 1431655765)) 2) 858993459)) 4)) 252645135) 8)) 16)))]) hc rfl (by decide) dJ6_bitCount_0f7a4_47 ?_
  refine z_ild (pc := 48) hc 0 rfl dJ6_bitCount_0f7a4_48 ?_
  refine z_bipush (pc := 49) hc 63 (by decide) dJ6_bitCount_0f7a4_49 ?_
  refine z_iand (pc := 51) hc dJ6_bitCount_0f7a4_51 ?_
  exact z_iret (pc := 52) hc he rfl dJ6_bitCount_0f7a4_52 (by rw [← bcS_eq hx]; exact ⟨rfl, rfl⟩)

set_option maxRecDepth 100000 in
set_option maxHeartbeats 4000000 in
theorem ct_J7_fill_53178 (M : Mem) (v : Int) : zCt yJ7_fill_53178 KJ7_fill_53178 [zR 35, zI v] M (fun zv zM => zv = none ∧ zM = filM M 35 144 v) := by
  refine z_met (by decide) rfl (Nat.le_of_ble_eq_true rfl) (fun X hc he => ?_)
  show zJW X 0 [(0, zR 35), (1, zI v)] [] M
  refine z_iconst (pc := 0) hc 0 dJ7_fill_53178_0 ?_
  refine z_ist (pc := 1) (lv' := [(2, zI 0), (0, zR 35), (1, zI v)]) hc rfl (by decide) dJ7_fill_53178_1 ?_
  refine z_ald (pc := 2) hc 1 rfl dJ7_fill_53178_2 ?_
  refine z_alen (pc := 3) (n := 144) hc rfl rfl rfl (by decide) dJ7_fill_53178_3 ?_
  refine z_ist (pc := 4) (lv' := [(3, zI 144), (2, zI 0), (0, zR 35), (1, zI v)]) hc rfl (by decide) dJ7_fill_53178_4 ?_
  refine z_for 144 (fun i5 => [(3, zI 144), (2, zI ((i5 : Nat) : Int)), (0, zR 35), (1, zI v)]) (fun i5 => (filM M 35 ((i5 : Nat) : Int) v)) (by rfl) (by exact filM_0) ?_ (fun i5 hi5 ih5 => ?_)
  · show zJW X 5 [(3, zI 144), (2, zI 144), (0, zR 35), (1, zI v)] [] (filM M 35 144 v)
    refine z_ild (pc := 5) hc 1 rfl dJ7_fill_53178_5 ?_
    refine z_ild (pc := 6) hc 0 rfl dJ7_fill_53178_6 ?_
    refine z_cge (pc := 7) (tgt := 20) hc (by omega) (by decide) dJ7_fill_53178_7 (fun h7 => ?_) (fun h7 => ?_)
    · show zJW X 20 [(3, zI 144), (2, zI 144), (0, zR 35), (1, zI v)] [] (filM M 35 144 v)
      exact z_vret (pc := 20) hc he rfl dJ7_fill_53178_20 (⟨rfl, rfl⟩)
    · exfalso; omega
  · show zJW X 5 [(3, zI 144), (2, zI ((i5 : Nat) : Int)), (0, zR 35), (1, zI v)] [] (filM M 35 ((i5 : Nat) : Int) v)
    refine z_ild (pc := 5) hc 1 rfl dJ7_fill_53178_5 ?_
    refine z_ild (pc := 6) hc 0 rfl dJ7_fill_53178_6 ?_
    refine z_cge (pc := 7) (tgt := 20) hc (by omega) (by decide) dJ7_fill_53178_7 (fun h7 => ?_) (fun h7 => ?_)
    · exfalso; omega
    · show zJW X 10 [(3, zI 144), (2, zI ((i5 : Nat) : Int)), (0, zR 35), (1, zI v)] [] (filM M 35 ((i5 : Nat) : Int) v)
      refine z_ald (pc := 10) hc 2 rfl dJ7_fill_53178_10 ?_
      refine z_ild (pc := 11) hc 1 rfl dJ7_fill_53178_11 ?_
      refine z_ild (pc := 12) hc 3 rfl dJ7_fill_53178_12 ?_
      refine z_iast (pc := 13) hc rfl rfl rfl (by decide) (by omega) dJ7_fill_53178_13 ?_
      refine z_iinc (pc := 14) (lv' := [(2, zI (((i5 : Nat) : Int) + 1)), (3, zI 144), (0, zR 35), (1, zI v)]) hc 1 rfl rfl (by decide) dJ7_fill_53178_14 ?_
      refine z_goto (pc := 17) (tgt := 5) hc (by decide) dJ7_fill_53178_17 ?_
      refine zJW_sub (lv' := [(3, zI 144), (2, zI (((i5 : Nat) : Int) + 1)), (0, zR 35), (1, zI v)]) [1, 0, 2, 3] rfl ?_
      exact zJW_eq (by rfl) rfl (by exact filM_s i5) ih5

set_option maxRecDepth 100000 in
set_option maxHeartbeats 4000000 in
theorem ct_X5_rotated (M : Mem) (m : Int) (e : Int)  : zCt yX5_rotated KX5_rotated [zI m, zI e] M (fun zv zM => zv = some (rtZ m e) ∧ zM = M) := by
  refine z_met (by decide) rfl (Nat.le_of_ble_eq_true rfl) (fun X hc he => ?_)
  show zJW X 0 [(0, zI m), (1, zI e)] [] M
  refine z_ild (pc := 0) hc 0 rfl dX5_rotated_0 ?_
  refine z_ild (pc := 1) hc 1 rfl dX5_rotated_1 ?_
  refine z_ishl (pc := 2) hc dX5_rotated_2 ?_
  refine z_ild (pc := 3) hc 0 rfl dX5_rotated_3 ?_
  refine z_bipush (pc := 4) hc 8 (by decide) dX5_rotated_4 ?_
  refine z_ild (pc := 6) hc 1 rfl dX5_rotated_6 ?_
  refine z_isub (pc := 7) hc dX5_rotated_7 ?_
  refine z_ishr (pc := 8) hc dX5_rotated_8 ?_
  refine z_ior (pc := 9) hc dX5_rotated_9 ?_
  refine z_sipush (pc := 10) hc 255 (by decide) dX5_rotated_10 ?_
  refine z_iand (pc := 13) hc dX5_rotated_13 ?_
  exact z_iret (pc := 14) hc he rfl dX5_rotated_14 (⟨rfl, rfl⟩)

set_option maxRecDepth 100000 in
set_option maxHeartbeats 4000000 in
theorem ct_X5_bitsThatCount (M : Mem) (m : Int)  : zCt yX5_bitsThatCount KX5_bitsThatCount [zI m] M (fun zv zM => zv = some (btZ m) ∧ zM = M) := by
  refine z_met (by decide) rfl (Nat.le_of_ble_eq_true rfl) (fun X hc he => ?_)
  show zJW X 0 [(0, zI m)] [] M
  refine z_ild (pc := 0) hc 0 rfl dX5_bitsThatCount_0 ?_
  refine z_bipush (pc := 1) hc 85 (by decide) dX5_bitsThatCount_1 ?_
  refine z_iand (pc := 3) hc dX5_bitsThatCount_3 ?_
  refine z_ist (pc := 4) (lv' := [(1, zI (zan m 85)), (0, zI m)]) hc rfl (by decide) dX5_bitsThatCount_4 ?_
  refine z_bipush (pc := 5) hc 85 (by decide) dX5_bitsThatCount_5 ?_
  refine z_ild (pc := 7) hc 0 rfl dX5_bitsThatCount_7 ?_
  refine z_iconst (pc := 8) hc 1 dX5_bitsThatCount_8 ?_
  refine kc_X5_216 (pc := 9) hc rfl (zfitX (by decide) rfl rfl) (Nat.le_of_ble_eq_true rfl) (ct_X5_rotated M (zan m 85) 1) dX5_bitsThatCount_9 ?_
  refine z_ild (pc := 12) hc 0 rfl dX5_bitsThatCount_12 ?_
  refine z_bipush (pc := 13) hc 7 (by decide) dX5_bitsThatCount_13 ?_
  refine kc_X5_216 (pc := 15) hc rfl (zfitX (by decide) rfl rfl) (Nat.le_of_ble_eq_true rfl) (ct_X5_rotated M (zan m 85) 7) dX5_bitsThatCount_15 ?_
  refine z_iand (pc := 18) hc dX5_bitsThatCount_18 ?_
  refine z_ior (pc := 19) hc dX5_bitsThatCount_19 ?_
  exact z_iret (pc := 20) hc he rfl dX5_bitsThatCount_20 (⟨rfl, rfl⟩)

set_option maxRecDepth 100000 in
set_option maxHeartbeats 4000000 in
theorem ct_X5_regularPart (M : Mem) (m : Int)  : zCt yX5_regularPart KX5_regularPart [zI m] M (fun zv zM => zv = some (rdZ m) ∧ zM = M) := by
  refine z_met (by decide) rfl (Nat.le_of_ble_eq_true rfl) (fun X hc he => ?_)
  show zJW X 0 [(0, zI m)] [] M
  refine z_ild (pc := 0) hc 0 rfl dX5_regularPart_0 ?_
  refine z_ild (pc := 1) hc 0 rfl dX5_regularPart_1 ?_
  refine kc_X5_184 (pc := 2) hc rfl (zfitX (by decide) rfl rfl) (Nat.le_of_ble_eq_true rfl) (ct_X5_bitsThatCount M m) dX5_regularPart_2 ?_
  refine z_iand (pc := 5) hc dX5_regularPart_5 ?_
  exact z_iret (pc := 6) hc he rfl dX5_regularPart_6 (⟨rfl, rfl⟩)

set_option maxRecDepth 100000 in
set_option maxHeartbeats 4000000 in
theorem ct_X5_position (M : Mem) (r : Int) (c : Int)  : zCt yX5_position KX5_position [zI r, zI c] M (fun zv zM => zv = some (100 * r + c) ∧ zM = M) := by
  refine z_met (by decide) rfl (Nat.le_of_ble_eq_true rfl) (fun X hc he => ?_)
  show zJW X 0 [(0, zI r), (1, zI c)] [] M
  refine z_bipush (pc := 0) hc 100 (by decide) dX5_position_0 ?_
  refine z_ild (pc := 2) hc 0 rfl dX5_position_2 ?_
  refine z_imul (pc := 3) hc dX5_position_3 ?_
  refine z_ild (pc := 4) hc 1 rfl dX5_position_4 ?_
  refine z_iadd (pc := 5) hc dX5_position_5 ?_
  exact z_iret (pc := 6) hc he rfl dX5_position_6 (⟨rfl, rfl⟩)

set_option maxRecDepth 100000 in
set_option maxHeartbeats 4000000 in
theorem ct_X1_maskFor (M : Mem) (hT : TbX M) (s : Int) (hs : 0 ≤ s ∧ s < 47) : zCt yX1_maskFor KX1_maskFor [zR 28, zI s] M (fun zv zM => zv = some (mkZ s) ∧ zM = M) := by
  refine z_met (by decide) rfl (Nat.le_of_ble_eq_true rfl) (fun X hc he => ?_)
  show zJW X 0 [(0, zR 28), (1, zI s)] [] M
  refine z_ild (pc := 0) hc 1 rfl dX1_maskFor_0 ?_
  refine kc_X1_22 (pc := 1) hc rfl (zfit0 (by decide) rfl rfl) (Nat.le_of_ble_eq_true rfl) (ct_X5_isShape M s (by omega)) dX1_maskFor_1 ?_
  refine z_beq (pc := 4) (tgt := 16) hc (by decide) dX1_maskFor_4 (fun h4 => ?_) (fun h4 => ?_)
  · exfalso; simp at h4; omega
  · show zJW X 7 [(0, zR 28), (1, zI s)] [] M
    refine z_ald (pc := 7) hc 0 rfl dX1_maskFor_7 ?_
    refine fg_X1_9 (pc := 8) hc rfl rfl dX1_maskFor_8 ?_
    refine z_ild (pc := 11) hc 1 rfl dX1_maskFor_11 ?_
    refine z_iald (pc := 12) hc rfl rfl rfl (by decide) (by omega) dX1_maskFor_12 ?_
    refine z_goto (pc := 13) (tgt := 17) hc (by decide) dX1_maskFor_13 ?_
    exact z_iret (pc := 17) hc he rfl dX1_maskFor_17 (⟨congrArg some (hT.1 s hs.1 hs.2), rfl⟩)

set_option maxRecDepth 100000 in
set_option maxHeartbeats 4000000 in
theorem ct_X1_shapeFor (M : Mem) (hT : TbX M) (m : Int) (hm : 0 ≤ m ∧ m < 256) : zCt yX1_shapeFor KX1_shapeFor [zR 28, zI m] M (fun zv zM => zv = some (shZ m) ∧ zM = M) := by
  refine z_met (by decide) rfl (Nat.le_of_ble_eq_true rfl) (fun X hc he => ?_)
  show zJW X 0 [(0, zR 28), (1, zI m)] [] M
  refine z_ild (pc := 0) hc 1 rfl dX1_shapeFor_0 ?_
  refine z_ilt (pc := 1) (tgt := 20) hc (by omega) (by decide) dX1_shapeFor_1 (fun h1 => ?_) (fun h1 => ?_)
  · show zJW X 20 [(0, zR 28), (1, zI m)] [] M
    refine z_bipush (pc := 20) hc (-6) (by decide) dX1_shapeFor_20 ?_
    exact z_iret (pc := 22) hc he rfl dX1_shapeFor_22 (by first | exact ⟨congrArg some (hT.2 m hm.1 hm.2), rfl⟩ | (exfalso; omega))
  · show zJW X 4 [(0, zR 28), (1, zI m)] [] M
    refine z_ild (pc := 4) hc 1 rfl dX1_shapeFor_4 ?_
    refine z_sipush (pc := 5) hc 256 (by decide) dX1_shapeFor_5 ?_
    refine z_cge (pc := 8) (tgt := 20) hc (by omega) (by decide) dX1_shapeFor_8 (fun h8 => ?_) (fun h8 => ?_)
    · show zJW X 20 [(0, zR 28), (1, zI m)] [] M
      refine z_bipush (pc := 20) hc (-6) (by decide) dX1_shapeFor_20 ?_
      exact z_iret (pc := 22) hc he rfl dX1_shapeFor_22 (by first | exact ⟨congrArg some (hT.2 m hm.1 hm.2), rfl⟩ | (exfalso; omega))
    · show zJW X 11 [(0, zR 28), (1, zI m)] [] M
      refine z_ald (pc := 11) hc 0 rfl dX1_shapeFor_11 ?_
      refine fg_X1_15 (pc := 12) hc rfl rfl dX1_shapeFor_12 ?_
      refine z_ild (pc := 15) hc 1 rfl dX1_shapeFor_15 ?_
      refine z_iald (pc := 16) hc rfl rfl rfl (by decide) (by omega) dX1_shapeFor_16 ?_
      refine z_goto (pc := 17) (tgt := 22) hc (by decide) dX1_shapeFor_17 ?_
      exact z_iret (pc := 22) hc he rfl dX1_shapeFor_22 (by first | exact ⟨congrArg some (hT.2 m hm.1 hm.2), rfl⟩ | (exfalso; omega))

set_option maxRecDepth 100000 in
set_option maxHeartbeats 4000000 in
theorem ct_X1_turnedShape (M : Mem) (hT : TbX M) (s q : Int) (hs : 0 ≤ s ∧ s < 47) : zCt yX1_turnedShape KX1_turnedShape [zR 28, zI s, zI q] M (fun zv zM => zv = some (tuZ s q) ∧ zM = M) := by
  refine z_met (by decide) rfl (Nat.le_of_ble_eq_true rfl) (fun X hc he => ?_)
  show zJW X 0 [(0, zR 28), (1, zI s), (2, zI q)] [] M
  refine z_ald (pc := 0) hc 0 rfl dX1_turnedShape_0 ?_
  refine z_ald (pc := 1) hc 0 rfl dX1_turnedShape_1 ?_
  refine z_ild (pc := 2) hc 1 rfl dX1_turnedShape_2 ?_
  refine kc_X1_26 (pc := 3) hc rfl (zfitX (by decide) rfl rfl) rfl (Nat.le_of_ble_eq_true rfl) (ct_X1_maskFor M (by assumption) s (by omega)) dX1_turnedShape_3 ?_
  refine z_iconst (pc := 6) hc 2 dX1_turnedShape_6 ?_
  refine z_ild (pc := 7) hc 2 rfl dX1_turnedShape_7 ?_
  refine z_imul (pc := 8) hc dX1_turnedShape_8 ?_
  refine kc_X1_29 (pc := 9) hc rfl (zfit0 (by decide) rfl rfl) (Nat.le_of_ble_eq_true rfl) (ct_X5_rotated M (mkZ s) (2 * q)) dX1_turnedShape_9 ?_
  refine kc_X1_33 (pc := 12) hc rfl (zfitX (by decide) rfl rfl) rfl (Nat.le_of_ble_eq_true rfl) (ct_X1_shapeFor M (by assumption) (rtZ (mkZ s) (2 * q)) (by first | omega | exact rtZ_bd _ _)) dX1_turnedShape_12 ?_
  exact z_iret (pc := 15) hc he rfl dX1_turnedShape_15 (⟨rfl, rfl⟩)

set_option maxRecDepth 100000 in
set_option maxHeartbeats 4000000 in
theorem ct_X5_rightMaskAt (M : Mem) (hS : zSk M 0) (hT : TbX M) (r c : Int) (hb_r : -100000 ≤ r ∧ r < 100000) (hb_c : -100000 ≤ c ∧ c < 100000)  : zCt yX5_rightMaskAt KX5_rightMaskAt [zR 27, zI r, zI c] M (fun zv zM => zv = some (rmT (tsX M 0) r c) ∧ zM = M) := by
  obtain ⟨hs1, hs2, hs3, hs4, hs5, hs6, hs7⟩ := id hS
  refine z_met (by decide) rfl (Nat.le_of_ble_eq_true rfl) (fun X hc he => ?_)
  show zJW X 0 [(0, zR 27), (1, zI r), (2, zI c)] [] M
  refine z_ald (pc := 0) hc 0 rfl dX5_rightMaskAt_0 ?_
  refine fg_X5_19 (pc := 1) hc rfl rfl dX5_rightMaskAt_1 ?_
  refine z_ild (pc := 4) hc 1 rfl dX5_rightMaskAt_4 ?_
  refine z_ild (pc := 5) hc 2 rfl dX5_rightMaskAt_5 ?_
  refine kc_X5_111 (pc := 6) hc rfl (zfitX (by decide) rfl rfl) rfl (by decide) (Nat.le_of_ble_eq_true rfl) (ct_X3_surroundingsOf M 0 (by omega) (by assumption) r c (by omega) (by omega)) dX5_rightMaskAt_6 ?_
  refine kc_X5_220 (pc := 9) hc rfl (zfit0 (by decide) rfl rfl) (Nat.le_of_ble_eq_true rfl) (ct_X5_regularPart M (arT (tsX M 0) r c)) dX5_rightMaskAt_9 ?_
  exact z_iret (pc := 12) hc he rfl dX5_rightMaskAt_12 (⟨rfl, rfl⟩)

set_option maxRecDepth 100000 in
set_option maxHeartbeats 4000000 in
theorem ct_X5_rightShapeAt (M : Mem) (hS : zSk M 0) (hT : TbX M) (r c : Int) (hb_r : -100000 ≤ r ∧ r < 100000) (hb_c : -100000 ≤ c ∧ c < 100000)  : zCt yX5_rightShapeAt KX5_rightShapeAt [zR 27, zI r, zI c] M (fun zv zM => zv = some (rsT (tsX M 0) r c) ∧ zM = M) := by
  obtain ⟨hs1, hs2, hs3, hs4, hs5, hs6, hs7⟩ := id hS
  have rb := rdZ_any (arT (tsX M 0) r c)
  refine z_met (by decide) rfl (Nat.le_of_ble_eq_true rfl) (fun X hc he => ?_)
  show zJW X 0 [(0, zR 27), (1, zI r), (2, zI c)] [] M
  refine z_ald (pc := 0) hc 0 rfl dX5_rightShapeAt_0 ?_
  refine fg_X5_12 (pc := 1) hc rfl rfl dX5_rightShapeAt_1 ?_
  have rb2 : 0 ≤ rmT (tsX M 0) r c ∧ rmT (tsX M 0) r c < 256 := rb
  refine z_ald (pc := 4) hc 0 rfl dX5_rightShapeAt_4 ?_
  refine z_ild (pc := 5) hc 1 rfl dX5_rightShapeAt_5 ?_
  refine z_ild (pc := 6) hc 2 rfl dX5_rightShapeAt_6 ?_
  refine kc_X5_223 (pc := 7) hc rfl (zfitX (by decide) rfl rfl) rfl (Nat.le_of_ble_eq_true rfl) (ct_X5_rightMaskAt M (by assumption) (by assumption) r c (by omega) (by omega)) dX5_rightShapeAt_7 ?_
  refine kc_X5_151 (pc := 10) hc rfl (zfitX (by decide) rfl rfl) rfl (Nat.le_of_ble_eq_true rfl) (ct_X1_shapeFor M (by assumption) (rmT (tsX M 0) r c) (by first | omega | exact rtZ_bd _ _)) dX5_rightShapeAt_10 ?_
  exact z_iret (pc := 13) hc he rfl dX5_rightShapeAt_13 (⟨rfl, rfl⟩)

set_option maxRecDepth 100000 in
set_option maxHeartbeats 4000000 in
theorem ct_X5_shapeAt (M : Mem) (hS : zSk M 0) (hT : TbX M) (r c : Int) (hb_r : -100000 ≤ r ∧ r < 100000) (hb_c : -100000 ≤ c ∧ c < 100000)  : zCt yX5_shapeAt KX5_shapeAt [zR 27, zI r, zI c] M (fun zv zM => zv = some (saT (tsX M 0) r c) ∧ zM = M) := by
  obtain ⟨hs1, hs2, hs3, hs4, hs5, hs6, hs7⟩ := id hS
  refine z_met (by decide) rfl (Nat.le_of_ble_eq_true rfl) (fun X hc he => ?_)
  show zJW X 0 [(0, zR 27), (1, zI r), (2, zI c)] [] M
  refine z_ald (pc := 0) hc 0 rfl dX5_shapeAt_0 ?_
  refine fg_X5_19 (pc := 1) hc rfl rfl dX5_shapeAt_1 ?_
  refine z_ild (pc := 4) hc 1 rfl dX5_shapeAt_4 ?_
  refine z_ild (pc := 5) hc 2 rfl dX5_shapeAt_5 ?_
  refine kc_X5_77 (pc := 6) hc rfl (zfitX (by decide) rfl rfl) rfl (by decide) (Nat.le_of_ble_eq_true rfl) (ct_X3_isLandAt M 0 (by omega) (by first | assumption ) r c (by omega) (by omega)) dX5_shapeAt_6 ?_
  refine z_bne (pc := 9) (tgt := 15) hc (by decide) dX5_shapeAt_9 (fun h9 => ?_) (fun h9 => ?_)
  · show zJW X 15 [(0, zR 27), (1, zI r), (2, zI c)] [] M
    refine z_ald (pc := 15) hc 0 rfl dX5_shapeAt_15 ?_
    refine fg_X5_19 (pc := 16) hc rfl rfl dX5_shapeAt_16 ?_
    refine z_ild (pc := 19) hc 1 rfl dX5_shapeAt_19 ?_
    refine z_ild (pc := 20) hc 2 rfl dX5_shapeAt_20 ?_
    refine kc_X5_129 (pc := 21) hc rfl (zfitX (by decide) rfl rfl) rfl (by decide) (Nat.le_of_ble_eq_true rfl) (ct_X3_isPinnedAt M 0 (by omega) (by first | assumption ) r c (by omega) (by omega)) dX5_shapeAt_21 ?_
    refine z_beq (pc := 24) (tgt := 39) hc (by decide) dX5_shapeAt_24 (fun h24 => ?_) (fun h24 => ?_)
    · show zJW X 39 [(0, zR 27), (1, zI r), (2, zI c)] [] M
      refine z_ald (pc := 39) hc 0 rfl dX5_shapeAt_39 ?_
      refine z_ild (pc := 40) hc 1 rfl dX5_shapeAt_40 ?_
      refine z_ild (pc := 41) hc 2 rfl dX5_shapeAt_41 ?_
      refine kc_X5_123 (pc := 42) hc rfl (zfitX (by decide) rfl rfl) rfl (Nat.le_of_ble_eq_true rfl) (ct_X5_rightShapeAt M (by assumption) (by assumption) r c (by omega) (by omega)) dX5_shapeAt_42 ?_
      exact z_iret (pc := 45) hc he rfl dX5_shapeAt_45 (by refine ⟨?_, rfl⟩; rw [saT, if_pos h9]; first | rw [if_pos (of_decide_eq_true h24)] | rw [if_neg (of_decide_eq_false h24)])
    · show zJW X 27 [(0, zR 27), (1, zI r), (2, zI c)] [] M
      refine z_ald (pc := 27) hc 0 rfl dX5_shapeAt_27 ?_
      refine fg_X5_19 (pc := 28) hc rfl rfl dX5_shapeAt_28 ?_
      refine z_ild (pc := 31) hc 1 rfl dX5_shapeAt_31 ?_
      refine z_ild (pc := 32) hc 2 rfl dX5_shapeAt_32 ?_
      refine kc_X5_142 (pc := 33) hc rfl (zfitX (by decide) rfl rfl) rfl (by decide) (Nat.le_of_ble_eq_true rfl) (ct_X3_pinAt M 0 (by omega) (by first | assumption ) r c (by omega) (by omega)) dX5_shapeAt_33 ?_
      refine z_goto (pc := 36) (tgt := 45) hc (by decide) dX5_shapeAt_36 ?_
      exact z_iret (pc := 45) hc he rfl dX5_shapeAt_45 (by refine ⟨?_, rfl⟩; rw [saT, if_pos h9]; first | rw [if_pos (of_decide_eq_true h24)] | rw [if_neg (of_decide_eq_false h24)])
  · show zJW X 12 [(0, zR 27), (1, zI r), (2, zI c)] [] M
    have h9 := h9
    refine z_bipush (pc := 12) hc (-6) (by decide) dX5_shapeAt_12 ?_
    exact z_iret (pc := 14) hc he rfl dX5_shapeAt_14 (by refine ⟨?_, rfl⟩; rw [saT, h9]; rfl)

set_option maxRecDepth 100000 in
set_option maxHeartbeats 4000000 in
theorem ct_X5_faultsAt (M : Mem) (hS : zSk M 0) (hT : TbX M) (r c : Int) (hb_r : -100000 ≤ r ∧ r < 100000) (hb_c : -100000 ≤ c ∧ c < 100000)  : zCt yX5_faultsAt KX5_faultsAt [zR 27, zI r, zI c] M (fun zv zM => zv = some (faT (tsX M 0) r c) ∧ zM = M) := by
  obtain ⟨hs1, hs2, hs3, hs4, hs5, hs6, hs7⟩ := id hS
  have pb := piT_bd hS r c
  have rb : 0 ≤ rmT (tsX M 0) r c ∧ rmT (tsX M 0) r c < 256 := rdZ_any (arT (tsX M 0) r c)
  refine z_met (by decide) rfl (Nat.le_of_ble_eq_true rfl) (fun X hc he => ?_)
  show zJW X 0 [(0, zR 27), (1, zI r), (2, zI c)] [] M
  refine z_ald (pc := 0) hc 0 rfl dX5_faultsAt_0 ?_
  refine fg_X5_19 (pc := 1) hc rfl rfl dX5_faultsAt_1 ?_
  refine z_ild (pc := 4) hc 1 rfl dX5_faultsAt_4 ?_
  refine z_ild (pc := 5) hc 2 rfl dX5_faultsAt_5 ?_
  refine kc_X5_129 (pc := 6) hc rfl (zfitX (by decide) rfl rfl) rfl (by decide) (Nat.le_of_ble_eq_true rfl) (ct_X3_isPinnedAt M 0 (by omega) (by first | assumption ) r c (by omega) (by omega)) dX5_faultsAt_6 ?_
  refine z_bne (pc := 9) (tgt := 14) hc (by decide) dX5_faultsAt_9 (fun h9 => ?_) (fun h9 => ?_)
  · show zJW X 14 [(0, zR 27), (1, zI r), (2, zI c)] [] M
    have h9 := of_decide_eq_true h9
    have mb := mkZ_bd (s := piT (tsX M 0) r c) (by omega)
    refine z_ald (pc := 14) hc 0 rfl dX5_faultsAt_14 ?_
    refine fg_X5_12 (pc := 15) hc rfl rfl dX5_faultsAt_15 ?_
    refine z_ald (pc := 18) hc 0 rfl dX5_faultsAt_18 ?_
    refine fg_X5_19 (pc := 19) hc rfl rfl dX5_faultsAt_19 ?_
    refine z_ild (pc := 22) hc 1 rfl dX5_faultsAt_22 ?_
    refine z_ild (pc := 23) hc 2 rfl dX5_faultsAt_23 ?_
    refine kc_X5_142 (pc := 24) hc rfl (zfitX (by decide) rfl rfl) rfl (by decide) (Nat.le_of_ble_eq_true rfl) (ct_X3_pinAt M 0 (by omega) (by first | assumption ) r c (by omega) (by omega)) dX5_faultsAt_24 ?_
    refine kc_X5_148 (pc := 27) hc rfl (zfitX (by decide) rfl rfl) rfl (Nat.le_of_ble_eq_true rfl) (ct_X1_maskFor M (by assumption) (piT (tsX M 0) r c) (by omega)) dX5_faultsAt_27 ?_
    refine z_ald (pc := 30) hc 0 rfl dX5_faultsAt_30 ?_
    refine z_ild (pc := 31) hc 1 rfl dX5_faultsAt_31 ?_
    refine z_ild (pc := 32) hc 2 rfl dX5_faultsAt_32 ?_
    refine kc_X5_223 (pc := 33) hc rfl (zfitX (by decide) rfl rfl) rfl (Nat.le_of_ble_eq_true rfl) (ct_X5_rightMaskAt M (by assumption) (by assumption) r c (by omega) (by omega)) dX5_faultsAt_33 ?_
    refine z_ixor (pc := 36) hc dX5_faultsAt_36 ?_
    refine kc_X5_114 (pc := 37) hc rfl (zfit0 (by decide) rfl rfl) (Nat.le_of_ble_eq_true rfl) (ct_J6_bitCount_0f7a4 M (zxr (mkZ (piT (tsX M 0) r c)) (rmT (tsX M 0) r c)) (by first | omega | exact zxr_bd (by omega) (by omega))) dX5_faultsAt_37 ?_
    exact z_iret (pc := 40) hc he rfl dX5_faultsAt_40 (by refine ⟨?_, rfl⟩; rw [faT, if_pos h9])
  · show zJW X 12 [(0, zR 27), (1, zI r), (2, zI c)] [] M
    refine z_iconst (pc := 12) hc 0 dX5_faultsAt_12 ?_
    exact z_iret (pc := 13) hc he rfl dX5_faultsAt_13 (by refine ⟨?_, rfl⟩; rw [faT, if_neg (of_decide_eq_false h9)])

set_option maxRecDepth 100000 in
set_option maxHeartbeats 4000000 in
theorem ct_X5_isReshapedBy (M : Mem) (hS : zSk M 0) (hT : TbX M) (r c : Int) (hb_r : -100000 ≤ r ∧ r < 100000) (hb_c : -100000 ≤ c ∧ c < 100000) (b : Int) (hb : 0 ≤ b ∧ b < 256) : zCt yX5_isReshapedBy KX5_isReshapedBy [zR 27, zI r, zI c, zI b] M (fun zv zM => zv = some (zbz (irT (tsX M 0) r c b)) ∧ zM = M) := by
  obtain ⟨hs1, hs2, hs3, hs4, hs5, hs6, hs7⟩ := id hS
  have ra := rdZ_any (arT (tsX M 0) r c)
  have rb := rdZ_any (zxr (arT (tsX M 0) r c) b)
  refine z_met (by decide) rfl (Nat.le_of_ble_eq_true rfl) (fun X hc he => ?_)
  show zJW X 0 [(0, zR 27), (1, zI r), (2, zI c), (3, zI b)] [] M
  refine z_ald (pc := 0) hc 0 rfl dX5_isReshapedBy_0 ?_
  refine fg_X5_19 (pc := 1) hc rfl rfl dX5_isReshapedBy_1 ?_
  refine z_ild (pc := 4) hc 1 rfl dX5_isReshapedBy_4 ?_
  refine z_ild (pc := 5) hc 2 rfl dX5_isReshapedBy_5 ?_
  refine kc_X5_77 (pc := 6) hc rfl (zfitX (by decide) rfl rfl) rfl (by decide) (Nat.le_of_ble_eq_true rfl) (ct_X3_isLandAt M 0 (by omega) (by first | assumption ) r c (by omega) (by omega)) dX5_isReshapedBy_6 ?_
  refine z_beq (pc := 9) (tgt := 24) hc (by decide) dX5_isReshapedBy_9 (fun h9 => ?_) (fun h9 => ?_)
  · show zJW X 24 [(0, zR 27), (1, zI r), (2, zI c), (3, zI b)] [] M
    refine z_iconst (pc := 24) hc 0 dX5_isReshapedBy_24 ?_
    exact z_bret (pc := 25) (a := false) hc he rfl dX5_isReshapedBy_25 (by refine ⟨?_, rfl⟩; first | (rw [irT, h9]; rfl) | (have h21 := of_decide_eq_true h21; rw [irT, decide_eq_false h21]; simp [zbz]))
  · show zJW X 12 [(0, zR 27), (1, zI r), (2, zI c), (3, zI b)] [] M
    refine z_ald (pc := 12) hc 0 rfl dX5_isReshapedBy_12 ?_
    refine fg_X5_19 (pc := 13) hc rfl rfl dX5_isReshapedBy_13 ?_
    refine z_ild (pc := 16) hc 1 rfl dX5_isReshapedBy_16 ?_
    refine z_ild (pc := 17) hc 2 rfl dX5_isReshapedBy_17 ?_
    refine kc_X5_129 (pc := 18) hc rfl (zfitX (by decide) rfl rfl) rfl (by decide) (Nat.le_of_ble_eq_true rfl) (ct_X3_isPinnedAt M 0 (by omega) (by first | assumption ) r c (by omega) (by omega)) dX5_isReshapedBy_18 ?_
    refine z_beq (pc := 21) (tgt := 26) hc (by decide) dX5_isReshapedBy_21 (fun h21 => ?_) (fun h21 => ?_)
    · show zJW X 26 [(0, zR 27), (1, zI r), (2, zI c), (3, zI b)] [] M
      refine z_ald (pc := 26) hc 0 rfl dX5_isReshapedBy_26 ?_
      refine fg_X5_19 (pc := 27) hc rfl rfl dX5_isReshapedBy_27 ?_
      refine z_ild (pc := 30) hc 1 rfl dX5_isReshapedBy_30 ?_
      refine z_ild (pc := 31) hc 2 rfl dX5_isReshapedBy_31 ?_
      refine kc_X5_111 (pc := 32) hc rfl (zfitX (by decide) rfl rfl) rfl (by decide) (Nat.le_of_ble_eq_true rfl) (ct_X3_surroundingsOf M 0 (by omega) (by assumption) r c (by omega) (by omega)) dX5_isReshapedBy_32 ?_
      refine z_isw (pc := 35) (lv' := [(4, zI (arT (tsX M 0) r c)), (0, zR 27), (1, zI r), (2, zI c), (3, zI b)]) hc rfl (by decide) dX5_isReshapedBy_35 ?_
      refine z_ilw (pc := 37) hc 0 rfl dX5_isReshapedBy_37 ?_
      refine kc_X5_220 (pc := 39) hc rfl (zfit0 (by decide) rfl rfl) (Nat.le_of_ble_eq_true rfl) (ct_X5_regularPart M (arT (tsX M 0) r c)) dX5_isReshapedBy_39 ?_
      refine z_ilw (pc := 42) hc 0 rfl dX5_isReshapedBy_42 ?_
      refine z_ild (pc := 44) hc 4 rfl dX5_isReshapedBy_44 ?_
      refine z_ixor (pc := 45) hc dX5_isReshapedBy_45 ?_
      refine kc_X5_220 (pc := 46) hc rfl (zfit0 (by decide) rfl rfl) (Nat.le_of_ble_eq_true rfl) (ct_X5_regularPart M (zxr (arT (tsX M 0) r c) b)) dX5_isReshapedBy_46 ?_
      refine z_ceq (pc := 49) (tgt := 56) hc (by omega) (by decide) dX5_isReshapedBy_49 (fun h49 => ?_) (fun h49 => ?_)
      · show zJW X 56 [(4, zI (arT (tsX M 0) r c)), (0, zR 27), (1, zI r), (2, zI c), (3, zI b)] [] M
        refine z_iconst (pc := 56) hc 0 dX5_isReshapedBy_56 ?_
        exact z_bret (pc := 57) (a := false) hc he rfl dX5_isReshapedBy_57 (by refine ⟨?_, rfl⟩; have h21 := of_decide_eq_false h21; rw [irT, h9, decide_eq_true (show piT (tsX M 0) r c = -1 by omega)]; first | rw [decide_eq_true h49]; rfl | rw [decide_eq_false (fun h => h h49)]; rfl)
      · show zJW X 52 [(4, zI (arT (tsX M 0) r c)), (0, zR 27), (1, zI r), (2, zI c), (3, zI b)] [] M
        refine z_iconst (pc := 52) hc 1 dX5_isReshapedBy_52 ?_
        refine z_goto (pc := 53) (tgt := 57) hc (by decide) dX5_isReshapedBy_53 ?_
        exact z_bret (pc := 57) (a := true) hc he rfl dX5_isReshapedBy_57 (by refine ⟨?_, rfl⟩; have h21 := of_decide_eq_false h21; rw [irT, h9, decide_eq_true (show piT (tsX M 0) r c = -1 by omega)]; first | rw [decide_eq_true h49]; rfl | rw [decide_eq_false (fun h => h h49)]; rfl)
    · show zJW X 24 [(0, zR 27), (1, zI r), (2, zI c), (3, zI b)] [] M
      refine z_iconst (pc := 24) hc 0 dX5_isReshapedBy_24 ?_
      exact z_bret (pc := 25) (a := false) hc he rfl dX5_isReshapedBy_25 (by refine ⟨?_, rfl⟩; first | (rw [irT, h9]; rfl) | (have h21 := of_decide_eq_true h21; rw [irT, decide_eq_false h21]; simp [zbz]))
