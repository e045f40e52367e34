set_option maxRecDepth 100000 in
set_option maxHeartbeats 4000000 in
theorem ct_J13_bitCount_95d88 (M : Mem) (x : Int64) : zCt yJ13_bitCount_95d88 KJ13_bitCount_95d88 [zL x] M (fun zv zM => zv = some (blA x) ∧ zM = M) := by
  refine z_met (by decide) rfl (Nat.le_of_ble_eq_true rfl) (fun X hc he => ?_)
  show zJW X 0 [(0, zL x)] [] M
  refine z_lld (pc := 0) hc 0 rfl dJ13_bitCount_95d88_0 ?_
  refine z_lld (pc := 1) hc 0 rfl dJ13_bitCount_95d88_1 ?_
  refine z_iconst (pc := 2) hc 1 dJ13_bitCount_95d88_2 ?_
  refine z_lushr (pc := 3) hc dJ13_bitCount_95d88_3 ?_
  refine z_ldc2 (pc := 4) hc 6148914691236517205 (List.mem_filter.mpr ⟨List.mem_of_getElem? (i := 469) (by decide +kernel), rfl⟩) dJ13_bitCount_95d88_4 ?_
  refine z_land (pc := 7) hc dJ13_bitCount_95d88_7 ?_
  refine z_lsub (pc := 8) hc dJ13_bitCount_95d88_8 ?_
  refine z_lst (pc := 9) (lv' := [(0, zL (x - ((zlus x 1) &&& 6148914691236517205)))]) hc rfl (by decide) dJ13_bitCount_95d88_9 ?_
  show zJW X _ [(0, zL (bl1 x))] [] _
  refine z_lld (pc := 10) hc 0 rfl dJ13_bitCount_95d88_10 ?_
  refine z_ldc2 (pc := 11) hc 3689348814741910323 (List.mem_filter.mpr ⟨List.mem_of_getElem? (i := 470) (by decide +kernel), rfl⟩) dJ13_bitCount_95d88_11 ?_
  refine z_land (pc := 14) hc dJ13_bitCount_95d88_14 ?_
  refine z_lld (pc := 15) hc 0 rfl dJ13_bitCount_95d88_15 ?_
  refine z_iconst (pc := 16) hc 2 dJ13_bitCount_95d88_16 ?_
  refine z_lushr (pc := 17) hc dJ13_bitCount_95d88_17 ?_
  refine z_ldc2 (pc := 18) hc 3689348814741910323 (List.mem_filter.mpr ⟨List.mem_of_getElem? (i := 470) (by decide +kernel), rfl⟩) dJ13_bitCount_95d88_18 ?_
  refine z_land (pc := 21) hc dJ13_bitCount_95d88_21 ?_
  refine z_ladd (pc := 22) hc dJ13_bitCount_95d88_22 ?_
  refine z_lst (pc := 23) (lv' := [(0, zL (((bl1 x) &&& 3689348814741910323) + ((zlus (bl1 x) 2) &&& 3689348814741910323)))]) hc rfl (by decide) dJ13_bitCount_95d88_23 ?_
  show zJW X _ [(0, zL (bl2 (bl1 x)))] [] _
  refine z_lld (pc := 24) hc 0 rfl dJ13_bitCount_95d88_24 ?_
  refine z_lld (pc := 25) hc 0 rfl dJ13_bitCount_95d88_25 ?_
  refine z_iconst (pc := 26) hc 4 dJ13_bitCount_95d88_26 ?_
  refine z_lushr (pc := 27) hc dJ13_bitCount_95d88_27 ?_
  refine z_ladd (pc := 28) hc dJ13_bitCount_95d88_28 ?_
  refine z_ldc2 (pc := 29) hc 1085102592571150095 (List.mem_filter.mpr ⟨List.mem_of_getElem? (i := 471) (by decide +kernel), rfl⟩) dJ13_bitCount_95d88_29 ?_
  refine z_land (pc := 32) hc dJ13_bitCount_95d88_32 ?_
  refine z_lst (pc := 33) (lv' := [(0, zL (((bl2 (bl1 x)) + (zlus (bl2 (bl1 x)) 4)) &&& 1085102592571150095))]) hc rfl (by decide) dJ13_bitCount_95d88_33 ?_
  show zJW X _ [(0, zL (bl3 (bl2 (bl1 x))))] [] _
  refine z_lld (pc := 34) hc 0 rfl dJ13_bitCount_95d88_34 ?_
  refine z_lld (pc := 35) hc 0 rfl dJ13_bitCount_95d88_35 ?_
  refine z_bipush (pc := 36) hc 8 (by decide) dJ13_bitCount_95d88_36 ?_
  refine z_lushr (pc := 38) hc dJ13_bitCount_95d88_38 ?_
  refine z_ladd (pc := 39) hc dJ13_bitCount_95d88_39 ?_
  refine z_lst (pc := 40) (lv' := [(0, zL ((bl3 (bl2 (bl1 x))) + (zlus (bl3 (bl2 (bl1 x))) 8)))]) hc rfl (by decide) dJ13_bitCount_95d88_40 ?_
  show zJW X _ [(0, zL (bl4 (bl3 (bl2 (bl1 x)))))] [] _
  refine z_lld (pc := 41) hc 0 rfl dJ13_bitCount_95d88_41 ?_
  refine z_lld (pc := 42) hc 0 rfl dJ13_bitCount_95d88_42 ?_
  refine z_bipush (pc := 43) hc 16 (by decide) dJ13_bitCount_95d88_43 ?_
  refine z_lushr (pc := 45) hc dJ13_bitCount_95d88_45 ?_
  refine z_ladd (pc := 46) hc dJ13_bitCount_95d88_46 ?_
  refine z_lst (pc := 47) (lv' := [(0, zL ((bl4 (bl3 (bl2 (bl1 x)))) + (zlus (bl4 (bl3 (bl2 (bl1 x)))) 16)))]) hc rfl (by decide) dJ13_bitCount_95d88_47 ?_
  show zJW X _ [(0, zL (bl5 (bl4 (bl3 (bl2 (bl1 x))))))] [] _
  refine z_lld (pc := 48) hc 0 rfl dJ13_bitCount_95d88_48 ?_
  refine z_lld (pc := 49) hc 0 rfl dJ13_bitCount_95d88_49 ?_
  refine z_bipush (pc := 50) hc 32 (by decide) dJ13_bitCount_95d88_50 ?_
  refine z_lushr (pc := 52) hc dJ13_bitCount_95d88_52 ?_
  refine z_ladd (pc := 53) hc dJ13_bitCount_95d88_53 ?_
  refine z_lst (pc := 54) (lv' := [(0, zL ((bl5 (bl4 (bl3 (bl2 (bl1 x))))) + (zlus (bl5 (bl4 (bl3 (bl2 (bl1 x))))) 32)))]) hc rfl (by decide) dJ13_bitCount_95d88_54 ?_
  show zJW X _ [(0, zL (bl6 (bl5 (bl4 (bl3 (bl2 (bl1 x)))))))] [] _
  refine z_lld (pc := 55) hc 0 rfl dJ13_bitCount_95d88_55 ?_
  refine z_l2i (pc := 56) hc dJ13_bitCount_95d88_56 ?_
  refine z_bipush (pc := 57) hc 127 (by decide) dJ13_bitCount_95d88_57 ?_
  refine z_iand (pc := 59) hc dJ13_bitCount_95d88_59 ?_
  exact z_iret (pc := 60) hc he rfl dJ13_bitCount_95d88_60 (⟨rfl, rfl⟩)

set_option maxRecDepth 100000 in
set_option maxHeartbeats 4000000 in
theorem ct_X5_shapes (M : Mem) (hS : zSk M 0) (hT : TbX M)  : zCt yX5_shapes KX5_shapes [zR 27] M (fun zv zM => zv = some (spA (tsX M 0)) ∧ zM = M) := by
  obtain ⟨hs1, hs2, hs3, hs4, hs5, hs6, hs7⟩ := id hS
  refine z_met (by decide) rfl (Nat.le_of_ble_eq_true rfl) (fun X hc he => ?_)
  show zJW X 0 [(0, zR 27)] [] M
  refine z_lconst (pc := 0) hc 0 0 rfl dX5_shapes_0 ?_
  refine z_lst (pc := 1) (lv' := [(1, zL 0), (0, zR 27)]) hc rfl (by decide) dX5_shapes_1 ?_
  refine z_iconst (pc := 2) hc 0 dX5_shapes_2 ?_
  refine z_ist (pc := 3) (lv' := [(3, zI 0), (1, zL 0), (0, zR 27)]) hc rfl (by decide) dX5_shapes_3 ?_
  refine z_for ((M 0 0).toNat) (fun i4 => [(3, zI ((i4 : Nat) : Int)), (1, zL (zLn (zrep (fun (r : Nat) (x : Nat) => zrep (fun (c : Nat) (m : Nat) => shI (tsX M 0) r c m) (tW (tsX M 0)).toNat x) i4 0))), (0, zR 27)]) (fun i4 => M) (by rfl) (by rfl) ?_ (fun i4 hi4 ih4 => ?_)
  · show zJW X 4 [(3, zI ((((M 0 0).toNat) : Nat) : Int)), (1, zL (zLn (zrep (fun (r : Nat) (x : Nat) => zrep (fun (c : Nat) (m : Nat) => shI (tsX M 0) r c m) (tW (tsX M 0)).toNat x) ((M 0 0).toNat) 0))), (0, zR 27)] [] M
    refine z_ild (pc := 4) hc 0 rfl dX5_shapes_4 ?_
    refine z_ald (pc := 5) hc 2 rfl dX5_shapes_5 ?_
    refine fg_X5_19 (pc := 6) hc rfl rfl dX5_shapes_6 ?_
    refine fg_X5_95 (pc := 9) hc rfl rfl (by decide) dX5_shapes_9 ?_
    refine z_cge (pc := 12) (tgt := 67) hc (by omega) (by decide) dX5_shapes_12 (fun h12 => ?_) (fun h12 => ?_)
    · show zJW X 67 [(3, zI ((((M 0 0).toNat) : Nat) : Int)), (1, zL (zLn (zrep (fun (r : Nat) (x : Nat) => zrep (fun (c : Nat) (m : Nat) => shI (tsX M 0) r c m) (tW (tsX M 0)).toNat x) ((M 0 0).toNat) 0))), (0, zR 27)] [] M
      refine z_lld (pc := 67) hc 1 rfl dX5_shapes_67 ?_
      refine kc_X5_160 (pc := 68) hc rfl (zfit0 (by decide) rfl rfl) (Nat.le_of_ble_eq_true rfl) (ct_J13_bitCount_95d88 M (zLn (zrep (fun (r : Nat) (x : Nat) => zrep (fun (c : Nat) (m : Nat) => shI (tsX M 0) r c m) (tW (tsX M 0)).toNat x) ((M 0 0).toNat) 0))) dX5_shapes_68 ?_
      exact z_iret (pc := 71) hc he rfl dX5_shapes_71 (by rw [← shF_sp hS]; exact ⟨congrArg some (blA_eq (m := shF (tsX M 0)) (Nat.lt_of_lt_of_le (shF_lt hS) (by decide))), rfl⟩)
    · exfalso; omega
  · show zJW X 4 [(3, zI ((i4 : Nat) : Int)), (1, zL (zLn (zrep (fun (r : Nat) (x : Nat) => zrep (fun (c : Nat) (m : Nat) => shI (tsX M 0) r c m) (tW (tsX M 0)).toNat x) i4 0))), (0, zR 27)] [] M
    refine z_ild (pc := 4) hc 0 rfl dX5_shapes_4 ?_
    refine z_ald (pc := 5) hc 2 rfl dX5_shapes_5 ?_
    refine fg_X5_19 (pc := 6) hc rfl rfl dX5_shapes_6 ?_
    refine fg_X5_95 (pc := 9) hc rfl rfl (by decide) dX5_shapes_9 ?_
    refine z_cge (pc := 12) (tgt := 67) hc (by omega) (by decide) dX5_shapes_12 (fun h12 => ?_) (fun h12 => ?_)
    · exfalso; omega
    · show zJW X 15 [(3, zI ((i4 : Nat) : Int)), (1, zL (zLn (zrep (fun (r : Nat) (x : Nat) => zrep (fun (c : Nat) (m : Nat) => shI (tsX M 0) r c m) (tW (tsX M 0)).toNat x) i4 0))), (0, zR 27)] [] M
      refine z_iconst (pc := 15) hc 0 dX5_shapes_15 ?_
      refine z_isw (pc := 16) (lv' := [(4, zI 0), (3, zI ((i4 : Nat) : Int)), (1, zL (zLn (zrep (fun (r : Nat) (x : Nat) => zrep (fun (c : Nat) (m : Nat) => shI (tsX M 0) r c m) (tW (tsX M 0)).toNat x) i4 0))), (0, zR 27)]) hc rfl (by decide) dX5_shapes_16 ?_
      refine z_for ((M 0 1).toNat) (fun i18 => [(4, zI ((i18 : Nat) : Int)), (3, zI ((i4 : Nat) : Int)), (1, zL (zLn (zrep (fun (c : Nat) (m : Nat) => shI (tsX M 0) i4 c m) i18 (zrep (fun (r : Nat) (x : Nat) => zrep (fun (c : Nat) (m : Nat) => shI (tsX M 0) r c m) (tW (tsX M 0)).toNat x) i4 0)))), (0, zR 27)]) (fun i18 => M) (by rfl) (by rfl) ?_ (fun i18 hi18 ih18 => ?_)
      · show zJW X 18 [(4, zI ((((M 0 1).toNat) : Nat) : Int)), (3, zI ((i4 : Nat) : Int)), (1, zL (zLn (zrep (fun (c : Nat) (m : Nat) => shI (tsX M 0) i4 c m) ((M 0 1).toNat) (zrep (fun (r : Nat) (x : Nat) => zrep (fun (c : Nat) (m : Nat) => shI (tsX M 0) r c m) (tW (tsX M 0)).toNat x) i4 0)))), (0, zR 27)] [] M
        refine z_ilw (pc := 18) hc 0 rfl dX5_shapes_18 ?_
        refine z_ald (pc := 20) hc 3 rfl dX5_shapes_20 ?_
        refine fg_X5_19 (pc := 21) hc rfl rfl dX5_shapes_21 ?_
        refine fg_X5_99 (pc := 24) hc rfl rfl (by decide) dX5_shapes_24 ?_
        refine z_cge (pc := 27) (tgt := 61) hc (by omega) (by decide) dX5_shapes_27 (fun h27 => ?_) (fun h27 => ?_)
        · show zJW X 61 [(4, zI ((((M 0 1).toNat) : Nat) : Int)), (3, zI ((i4 : Nat) : Int)), (1, zL (zLn (zrep (fun (c : Nat) (m : Nat) => shI (tsX M 0) i4 c m) ((M 0 1).toNat) (zrep (fun (r : Nat) (x : Nat) => zrep (fun (c : Nat) (m : Nat) => shI (tsX M 0) r c m) (tW (tsX M 0)).toNat x) i4 0)))), (0, zR 27)] [] M
          refine z_iinc (pc := 61) (lv' := [(3, zI (((i4 : Nat) : Int) + 1)), (4, zI ((((M 0 1).toNat) : Nat) : Int)), (1, zL (zLn (zrep (fun (c : Nat) (m : Nat) => shI (tsX M 0) i4 c m) ((M 0 1).toNat) (zrep (fun (r : Nat) (x : Nat) => zrep (fun (c : Nat) (m : Nat) => shI (tsX M 0) r c m) (tW (tsX M 0)).toNat x) i4 0)))), (0, zR 27)]) hc 1 rfl rfl (by decide) dX5_shapes_61 ?_
          refine z_goto (pc := 64) (tgt := 4) hc (by decide) dX5_shapes_64 ?_
          refine zJW_sub (lv' := [(3, zI (((i4 : Nat) : Int) + 1)), (1, zL (zLn (zrep (fun (c : Nat) (m : Nat) => shI (tsX M 0) i4 c m) ((M 0 1).toNat) (zrep (fun (r : Nat) (x : Nat) => zrep (fun (c : Nat) (m : Nat) => shI (tsX M 0) r c m) (tW (tsX M 0)).toNat x) i4 0)))), (0, zR 27)]) [0, 2, 3] rfl ?_
          exact zJW_eq (by rfl) rfl (by rfl) ih4
        · exfalso; omega
      · show zJW X 18 [(4, zI ((i18 : Nat) : Int)), (3, zI ((i4 : Nat) : Int)), (1, zL (zLn (zrep (fun (c : Nat) (m : Nat) => shI (tsX M 0) i4 c m) i18 (zrep (fun (r : Nat) (x : Nat) => zrep (fun (c : Nat) (m : Nat) => shI (tsX M 0) r c m) (tW (tsX M 0)).toNat x) i4 0)))), (0, zR 27)] [] M
        refine z_ilw (pc := 18) hc 0 rfl dX5_shapes_18 ?_
        refine z_ald (pc := 20) hc 3 rfl dX5_shapes_20 ?_
        refine fg_X5_19 (pc := 21) hc rfl rfl dX5_shapes_21 ?_
        refine fg_X5_99 (pc := 24) hc rfl rfl (by decide) dX5_shapes_24 ?_
        refine z_cge (pc := 27) (tgt := 61) hc (by omega) (by decide) dX5_shapes_27 (fun h27 => ?_) (fun h27 => ?_)
        · exfalso; omega
        · show zJW X 30 [(4, zI ((i18 : Nat) : Int)), (3, zI ((i4 : Nat) : Int)), (1, zL (zLn (zrep (fun (c : Nat) (m : Nat) => shI (tsX M 0) i4 c m) i18 (zrep (fun (r : Nat) (x : Nat) => zrep (fun (c : Nat) (m : Nat) => shI (tsX M 0) r c m) (tW (tsX M 0)).toNat x) i4 0)))), (0, zR 27)] [] M
          refine z_ald (pc := 30) hc 3 rfl dX5_shapes_30 ?_
          refine fg_X5_19 (pc := 31) hc rfl rfl dX5_shapes_31 ?_
          refine z_ild (pc := 34) hc 1 rfl dX5_shapes_34 ?_
          refine z_ilw (pc := 35) hc 0 rfl dX5_shapes_35 ?_
          refine kc_X5_77 (pc := 37) hc rfl (zfitX (by decide) rfl rfl) rfl (by decide) (Nat.le_of_ble_eq_true rfl) (ct_X3_isLandAt M 0 (by omega) (by first | assumption ) ((i4 : Nat) : Int) ((i18 : Nat) : Int) (by omega) (by omega)) dX5_shapes_37 ?_
          refine z_beq (pc := 40) (tgt := 55) hc (by decide) dX5_shapes_40 (fun h40 => ?_) (fun h40 => ?_)
          · show zJW X 55 [(4, zI ((i18 : Nat) : Int)), (3, zI ((i4 : Nat) : Int)), (1, zL (zLn (zrep (fun (c : Nat) (m : Nat) => shI (tsX M 0) i4 c m) i18 (zrep (fun (r : Nat) (x : Nat) => zrep (fun (c : Nat) (m : Nat) => shI (tsX M 0) r c m) (tW (tsX M 0)).toNat x) i4 0)))), (0, zR 27)] [] M
            refine z_iinc (pc := 55) (lv' := [(4, zI (((i18 : Nat) : Int) + 1)), (3, zI ((i4 : Nat) : Int)), (1, zL (zLn (zrep (fun (c : Nat) (m : Nat) => shI (tsX M 0) i4 c m) i18 (zrep (fun (r : Nat) (x : Nat) => zrep (fun (c : Nat) (m : Nat) => shI (tsX M 0) r c m) (tW (tsX M 0)).toNat x) i4 0)))), (0, zR 27)]) hc 0 rfl rfl (by decide) dX5_shapes_55 ?_
            refine z_goto (pc := 58) (tgt := 18) hc (by decide) dX5_shapes_58 ?_
            exact zJW_eq (by rw [zrep_succ]; first | (rw [shI_n h40]; rfl) | (rw [shI_y h40 (saT_la hS h40)]; rfl)) rfl (by rfl) ih18
          · show zJW X 43 [(4, zI ((i18 : Nat) : Int)), (3, zI ((i4 : Nat) : Int)), (1, zL (zLn (zrep (fun (c : Nat) (m : Nat) => shI (tsX M 0) i4 c m) i18 (zrep (fun (r : Nat) (x : Nat) => zrep (fun (c : Nat) (m : Nat) => shI (tsX M 0) r c m) (tW (tsX M 0)).toNat x) i4 0)))), (0, zR 27)] [] M
            refine z_lld (pc := 43) hc 2 rfl dX5_shapes_43 ?_
            refine z_lconst (pc := 44) hc 1 1 rfl dX5_shapes_44 ?_
            refine z_ald (pc := 45) hc 3 rfl dX5_shapes_45 ?_
            refine z_ild (pc := 46) hc 1 rfl dX5_shapes_46 ?_
            refine z_ilw (pc := 47) hc 0 rfl dX5_shapes_47 ?_
            refine kc_X5_126 (pc := 49) hc rfl (zfitX (by decide) rfl rfl) rfl (Nat.le_of_ble_eq_true rfl) (ct_X5_shapeAt M (by assumption) (by assumption) ((i4 : Nat) : Int) ((i18 : Nat) : Int) (by omega) (by omega)) dX5_shapes_49 ?_
            refine z_lshl (pc := 52) hc dX5_shapes_52 ?_
            refine z_lor (pc := 53) hc dX5_shapes_53 ?_
            refine z_lst (pc := 54) (lv' := [(1, zL ((zLn (zrep (fun (c : Nat) (m : Nat) => shI (tsX M 0) i4 c m) i18 (zrep (fun (r : Nat) (x : Nat) => zrep (fun (c : Nat) (m : Nat) => shI (tsX M 0) r c m) (tW (tsX M 0)).toNat x) i4 0))) ||| (zlsl 1 (saT (tsX M 0) ((i4 : Nat) : Int) ((i18 : Nat) : Int))))), (4, zI ((i18 : Nat) : Int)), (3, zI ((i4 : Nat) : Int)), (0, zR 27)]) hc rfl (by decide) dX5_shapes_54 ?_
            refine z_iinc (pc := 55) (lv' := [(4, zI (((i18 : Nat) : Int) + 1)), (1, zL ((zLn (zrep (fun (c : Nat) (m : Nat) => shI (tsX M 0) i4 c m) i18 (zrep (fun (r : Nat) (x : Nat) => zrep (fun (c : Nat) (m : Nat) => shI (tsX M 0) r c m) (tW (tsX M 0)).toNat x) i4 0))) ||| (zlsl 1 (saT (tsX M 0) ((i4 : Nat) : Int) ((i18 : Nat) : Int))))), (3, zI ((i4 : Nat) : Int)), (0, zR 27)]) hc 1 rfl rfl (by decide) dX5_shapes_55 ?_
            refine z_goto (pc := 58) (tgt := 18) hc (by decide) dX5_shapes_58 ?_
            refine zJW_sub (lv' := [(4, zI (((i18 : Nat) : Int) + 1)), (3, zI ((i4 : Nat) : Int)), (1, zL ((zLn (zrep (fun (c : Nat) (m : Nat) => shI (tsX M 0) i4 c m) i18 (zrep (fun (r : Nat) (x : Nat) => zrep (fun (c : Nat) (m : Nat) => shI (tsX M 0) r c m) (tW (tsX M 0)).toNat x) i4 0))) ||| (zlsl 1 (saT (tsX M 0) ((i4 : Nat) : Int) ((i18 : Nat) : Int))))), (0, zR 27)]) [0, 2, 1, 3] rfl ?_
            exact zJW_eq (by rw [zrep_succ]; first | (rw [shI_n h40]; rfl) | (rw [shI_y h40 (saT_la hS h40)]; rfl)) rfl (by rfl) ih18
