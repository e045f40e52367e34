set_option maxRecDepth 100000 in
set_option maxHeartbeats 4000000 in
theorem ct_X5_reshapedByOutside (M : Mem) (hS : zSk M 0) (hT : TbX M)  : zCt yX5_reshapedByOutside KX5_reshapedByOutside [zR 27] M (fun zv zM => zv = some (roA (tsX M 0)) ∧ zM = M) := by
  obtain ⟨hs1, hs2, hs3, hs4, hs5, hs6, hs7⟩ := id hS
  refine z_met (by decide) rfl (Nat.le_of_ble_eq_true rfl) (fun X hc he => ?_)
  show zJW X 0 [(0, zR 27)] [] M
  refine z_iconst (pc := 0) hc 0 dX5_reshapedByOutside_0 ?_
  refine z_ist (pc := 1) (lv' := [(1, zI 0), (0, zR 27)]) hc rfl (by decide) dX5_reshapedByOutside_1 ?_
  refine z_iconst (pc := 2) hc 0 dX5_reshapedByOutside_2 ?_
  refine z_ist (pc := 3) (lv' := [(2, zI 0), (1, zI 0), (0, zR 27)]) hc rfl (by decide) dX5_reshapedByOutside_3 ?_
  refine z_for ((M 0 0).toNat) (fun i4 => [(2, zI ((i4 : Nat) : Int)), (1, zI (zrep (fun (r : Nat) (x : Int) => zrep (fun (c : Nat) (y : Int) => (fun (r : Int) => y + zbz (irT (tsX M 0) r c (obT (tsX M 0) r c))) r) (tW (tsX M 0)).toNat x) i4 0)), (0, zR 27)]) (fun i4 => M) (by rfl) (by rfl) ?_ (fun i4 hi4 ih4 => ?_)
  · show zJW X 4 [(2, zI ((((M 0 0).toNat) : Nat) : Int)), (1, zI (zrep (fun (r : Nat) (x : Int) => zrep (fun (c : Nat) (y : Int) => (fun (r : Int) => y + zbz (irT (tsX M 0) r c (obT (tsX M 0) r c))) r) (tW (tsX M 0)).toNat x) ((M 0 0).toNat) 0)), (0, zR 27)] [] M
    refine z_ild (pc := 4) hc 0 rfl dX5_reshapedByOutside_4 ?_
    refine z_ald (pc := 5) hc 2 rfl dX5_reshapedByOutside_5 ?_
    refine fg_X5_19 (pc := 6) hc rfl rfl dX5_reshapedByOutside_6 ?_
    refine fg_X5_95 (pc := 9) hc rfl rfl (by decide) dX5_reshapedByOutside_9 ?_
    refine z_cge (pc := 12) (tgt := 61) hc (by omega) (by decide) dX5_reshapedByOutside_12 (fun h12 => ?_) (fun h12 => ?_)
    · show zJW X 61 [(2, zI ((((M 0 0).toNat) : Nat) : Int)), (1, zI (zrep (fun (r : Nat) (x : Int) => zrep (fun (c : Nat) (y : Int) => (fun (r : Int) => y + zbz (irT (tsX M 0) r c (obT (tsX M 0) r c))) r) (tW (tsX M 0)).toNat x) ((M 0 0).toNat) 0)), (0, zR 27)] [] M
      refine z_ild (pc := 61) hc 1 rfl dX5_reshapedByOutside_61 ?_
      exact z_iret (pc := 62) hc he rfl dX5_reshapedByOutside_62 (⟨rfl, rfl⟩)
    · exfalso; omega
  · show zJW X 4 [(2, zI ((i4 : Nat) : Int)), (1, zI (zrep (fun (r : Nat) (x : Int) => zrep (fun (c : Nat) (y : Int) => (fun (r : Int) => y + zbz (irT (tsX M 0) r c (obT (tsX M 0) r c))) r) (tW (tsX M 0)).toNat x) i4 0)), (0, zR 27)] [] M
    refine z_ild (pc := 4) hc 0 rfl dX5_reshapedByOutside_4 ?_
    refine z_ald (pc := 5) hc 2 rfl dX5_reshapedByOutside_5 ?_
    refine fg_X5_19 (pc := 6) hc rfl rfl dX5_reshapedByOutside_6 ?_
    refine fg_X5_95 (pc := 9) hc rfl rfl (by decide) dX5_reshapedByOutside_9 ?_
    refine z_cge (pc := 12) (tgt := 61) hc (by omega) (by decide) dX5_reshapedByOutside_12 (fun h12 => ?_) (fun h12 => ?_)
    · exfalso; omega
    · show zJW X 15 [(2, zI ((i4 : Nat) : Int)), (1, zI (zrep (fun (r : Nat) (x : Int) => zrep (fun (c : Nat) (y : Int) => (fun (r : Int) => y + zbz (irT (tsX M 0) r c (obT (tsX M 0) r c))) r) (tW (tsX M 0)).toNat x) i4 0)), (0, zR 27)] [] M
      refine z_iconst (pc := 15) hc 0 dX5_reshapedByOutside_15 ?_
      refine z_ist (pc := 16) (lv' := [(3, zI 0), (2, zI ((i4 : Nat) : Int)), (1, zI (zrep (fun (r : Nat) (x : Int) => zrep (fun (c : Nat) (y : Int) => (fun (r : Int) => y + zbz (irT (tsX M 0) r c (obT (tsX M 0) r c))) r) (tW (tsX M 0)).toNat x) i4 0)), (0, zR 27)]) hc rfl (by decide) dX5_reshapedByOutside_16 ?_
      refine z_for ((M 0 1).toNat) (fun i17 => [(3, zI ((i17 : Nat) : Int)), (2, zI ((i4 : Nat) : Int)), (1, zI (zrep (fun (c : Nat) (y : Int) => (fun (r : Int) => y + zbz (irT (tsX M 0) r c (obT (tsX M 0) r c))) i4) i17 (zrep (fun (r : Nat) (x : Int) => zrep (fun (c : Nat) (y : Int) => (fun (r : Int) => y + zbz (irT (tsX M 0) r c (obT (tsX M 0) r c))) r) (tW (tsX M 0)).toNat x) i4 0))), (0, zR 27)]) (fun i17 => M) (by rfl) (by rfl) ?_ (fun i17 hi17 ih17 => ?_)
      · show zJW X 17 [(3, zI ((((M 0 1).toNat) : Nat) : Int)), (2, zI ((i4 : Nat) : Int)), (1, zI (zrep (fun (c : Nat) (y : Int) => (fun (r : Int) => y + zbz (irT (tsX M 0) r c (obT (tsX M 0) r c))) i4) ((M 0 1).toNat) (zrep (fun (r : Nat) (x : Int) => zrep (fun (c : Nat) (y : Int) => (fun (r : Int) => y + zbz (irT (tsX M 0) r c (obT (tsX M 0) r c))) r) (tW (tsX M 0)).toNat x) i4 0))), (0, zR 27)] [] M
        refine z_ild (pc := 17) hc 0 rfl dX5_reshapedByOutside_17 ?_
        refine z_ald (pc := 18) hc 3 rfl dX5_reshapedByOutside_18 ?_
        refine fg_X5_19 (pc := 19) hc rfl rfl dX5_reshapedByOutside_19 ?_
        refine fg_X5_99 (pc := 22) hc rfl rfl (by decide) dX5_reshapedByOutside_22 ?_
        refine z_cge (pc := 25) (tgt := 55) hc (by omega) (by decide) dX5_reshapedByOutside_25 (fun h25 => ?_) (fun h25 => ?_)
        · show zJW X 55 [(3, zI ((((M 0 1).toNat) : Nat) : Int)), (2, zI ((i4 : Nat) : Int)), (1, zI (zrep (fun (c : Nat) (y : Int) => (fun (r : Int) => y + zbz (irT (tsX M 0) r c (obT (tsX M 0) r c))) i4) ((M 0 1).toNat) (zrep (fun (r : Nat) (x : Int) => zrep (fun (c : Nat) (y : Int) => (fun (r : Int) => y + zbz (irT (tsX M 0) r c (obT (tsX M 0) r c))) r) (tW (tsX M 0)).toNat x) i4 0))), (0, zR 27)] [] M
          refine z_iinc (pc := 55) (lv' := [(2, zI (((i4 : Nat) : Int) + 1)), (3, zI ((((M 0 1).toNat) : Nat) : Int)), (1, zI (zrep (fun (c : Nat) (y : Int) => (fun (r : Int) => y + zbz (irT (tsX M 0) r c (obT (tsX M 0) r c))) i4) ((M 0 1).toNat) (zrep (fun (r : Nat) (x : Int) => zrep (fun (c : Nat) (y : Int) => (fun (r : Int) => y + zbz (irT (tsX M 0) r c (obT (tsX M 0) r c))) r) (tW (tsX M 0)).toNat x) i4 0))), (0, zR 27)]) hc 1 rfl rfl (by decide) dX5_reshapedByOutside_55 ?_
          refine z_goto (pc := 58) (tgt := 4) hc (by decide) dX5_reshapedByOutside_58 ?_
          refine zJW_sub (lv' := [(2, zI (((i4 : Nat) : Int) + 1)), (1, zI (zrep (fun (c : Nat) (y : Int) => (fun (r : Int) => y + zbz (irT (tsX M 0) r c (obT (tsX M 0) r c))) i4) ((M 0 1).toNat) (zrep (fun (r : Nat) (x : Int) => zrep (fun (c : Nat) (y : Int) => (fun (r : Int) => y + zbz (irT (tsX M 0) r c (obT (tsX M 0) r c))) r) (tW (tsX M 0)).toNat x) i4 0))), (0, zR 27)]) [0, 2, 3] rfl ?_
          exact zJW_eq (by rfl) rfl (by rfl) ih4
        · exfalso; omega
      · show zJW X 17 [(3, zI ((i17 : Nat) : Int)), (2, zI ((i4 : Nat) : Int)), (1, zI (zrep (fun (c : Nat) (y : Int) => (fun (r : Int) => y + zbz (irT (tsX M 0) r c (obT (tsX M 0) r c))) i4) i17 (zrep (fun (r : Nat) (x : Int) => zrep (fun (c : Nat) (y : Int) => (fun (r : Int) => y + zbz (irT (tsX M 0) r c (obT (tsX M 0) r c))) r) (tW (tsX M 0)).toNat x) i4 0))), (0, zR 27)] [] M
        refine z_ild (pc := 17) hc 0 rfl dX5_reshapedByOutside_17 ?_
        refine z_ald (pc := 18) hc 3 rfl dX5_reshapedByOutside_18 ?_
        refine fg_X5_19 (pc := 19) hc rfl rfl dX5_reshapedByOutside_19 ?_
        refine fg_X5_99 (pc := 22) hc rfl rfl (by decide) dX5_reshapedByOutside_22 ?_
        refine z_cge (pc := 25) (tgt := 55) hc (by omega) (by decide) dX5_reshapedByOutside_25 (fun h25 => ?_) (fun h25 => ?_)
        · exfalso; omega
        · show zJW X 28 [(3, zI ((i17 : Nat) : Int)), (2, zI ((i4 : Nat) : Int)), (1, zI (zrep (fun (c : Nat) (y : Int) => (fun (r : Int) => y + zbz (irT (tsX M 0) r c (obT (tsX M 0) r c))) i4) i17 (zrep (fun (r : Nat) (x : Int) => zrep (fun (c : Nat) (y : Int) => (fun (r : Int) => y + zbz (irT (tsX M 0) r c (obT (tsX M 0) r c))) r) (tW (tsX M 0)).toNat x) i4 0))), (0, zR 27)] [] M
          refine z_ald (pc := 28) hc 3 rfl dX5_reshapedByOutside_28 ?_
          refine z_ild (pc := 29) hc 1 rfl dX5_reshapedByOutside_29 ?_
          refine z_ild (pc := 30) hc 0 rfl dX5_reshapedByOutside_30 ?_
          refine z_ald (pc := 31) hc 3 rfl dX5_reshapedByOutside_31 ?_
          refine fg_X5_19 (pc := 32) hc rfl rfl dX5_reshapedByOutside_32 ?_
          refine z_ild (pc := 35) hc 1 rfl dX5_reshapedByOutside_35 ?_
          refine z_ild (pc := 36) hc 0 rfl dX5_reshapedByOutside_36 ?_
          refine kc_X5_187 (pc := 37) hc rfl (zfitX (by decide) rfl rfl) rfl (by decide) (Nat.le_of_ble_eq_true rfl) (ct_X3_outsideBitsOf M 0 (by omega) (by assumption) ((i4 : Nat) : Int) ((i17 : Nat) : Int) (by omega) (by omega)) dX5_reshapedByOutside_37 ?_
          refine kc_X5_226 (pc := 40) hc rfl (zfitX (by decide) rfl rfl) rfl (Nat.le_of_ble_eq_true rfl) (ct_X5_isReshapedBy M (by assumption) (by assumption) ((i4 : Nat) : Int) ((i17 : Nat) : Int) (by omega) (by omega) (obT (tsX M 0) ((i4 : Nat) : Int) ((i17 : Nat) : Int)) (by first | omega | exact obT_bd _ _ _ | exact rtZ_bd _ _)) dX5_reshapedByOutside_40 ?_
          refine z_beq (pc := 43) (tgt := 49) hc (by decide) dX5_reshapedByOutside_43 (fun h43 => ?_) (fun h43 => ?_)
          · show zJW X 49 [(3, zI ((i17 : Nat) : Int)), (2, zI ((i4 : Nat) : Int)), (1, zI (zrep (fun (c : Nat) (y : Int) => (fun (r : Int) => y + zbz (irT (tsX M 0) r c (obT (tsX M 0) r c))) i4) i17 (zrep (fun (r : Nat) (x : Int) => zrep (fun (c : Nat) (y : Int) => (fun (r : Int) => y + zbz (irT (tsX M 0) r c (obT (tsX M 0) r c))) r) (tW (tsX M 0)).toNat x) i4 0))), (0, zR 27)] [] M
            refine z_iinc (pc := 49) (lv' := [(3, zI (((i17 : Nat) : Int) + 1)), (2, zI ((i4 : Nat) : Int)), (1, zI (zrep (fun (c : Nat) (y : Int) => (fun (r : Int) => y + zbz (irT (tsX M 0) r c (obT (tsX M 0) r c))) i4) i17 (zrep (fun (r : Nat) (x : Int) => zrep (fun (c : Nat) (y : Int) => (fun (r : Int) => y + zbz (irT (tsX M 0) r c (obT (tsX M 0) r c))) r) (tW (tsX M 0)).toNat x) i4 0))), (0, zR 27)]) hc 0 rfl rfl (by decide) dX5_reshapedByOutside_49 ?_
            refine z_goto (pc := 52) (tgt := 17) hc (by decide) dX5_reshapedByOutside_52 ?_
            exact zJW_eq (by simp only [zrep_succ, h43, zbz_t, zbz_f, Int.add_zero, Int.natCast_add, Int.natCast_one]) rfl (by rfl) ih17
          · show zJW X 46 [(3, zI ((i17 : Nat) : Int)), (2, zI ((i4 : Nat) : Int)), (1, zI (zrep (fun (c : Nat) (y : Int) => (fun (r : Int) => y + zbz (irT (tsX M 0) r c (obT (tsX M 0) r c))) i4) i17 (zrep (fun (r : Nat) (x : Int) => zrep (fun (c : Nat) (y : Int) => (fun (r : Int) => y + zbz (irT (tsX M 0) r c (obT (tsX M 0) r c))) r) (tW (tsX M 0)).toNat x) i4 0))), (0, zR 27)] [] M
            refine z_iinc (pc := 46) (lv' := [(1, zI (zrep (fun (c : Nat) (y : Int) => (fun (r : Int) => y + zbz (irT (tsX M 0) r c (obT (tsX M 0) r c))) i4) i17 (zrep (fun (r : Nat) (x : Int) => zrep (fun (c : Nat) (y : Int) => (fun (r : Int) => y + zbz (irT (tsX M 0) r c (obT (tsX M 0) r c))) r) (tW (tsX M 0)).toNat x) i4 0) + 1)), (3, zI ((i17 : Nat) : Int)), (2, zI ((i4 : Nat) : Int)), (0, zR 27)]) hc 2 rfl rfl (by decide) dX5_reshapedByOutside_46 ?_
            refine z_iinc (pc := 49) (lv' := [(3, zI (((i17 : Nat) : Int) + 1)), (1, zI (zrep (fun (c : Nat) (y : Int) => (fun (r : Int) => y + zbz (irT (tsX M 0) r c (obT (tsX M 0) r c))) i4) i17 (zrep (fun (r : Nat) (x : Int) => zrep (fun (c : Nat) (y : Int) => (fun (r : Int) => y + zbz (irT (tsX M 0) r c (obT (tsX M 0) r c))) r) (tW (tsX M 0)).toNat x) i4 0) + 1)), (2, zI ((i4 : Nat) : Int)), (0, zR 27)]) hc 1 rfl rfl (by decide) dX5_reshapedByOutside_49 ?_
            refine z_goto (pc := 52) (tgt := 17) hc (by decide) dX5_reshapedByOutside_52 ?_
            refine zJW_sub (lv' := [(3, zI (((i17 : Nat) : Int) + 1)), (2, zI ((i4 : Nat) : Int)), (1, zI (zrep (fun (c : Nat) (y : Int) => (fun (r : Int) => y + zbz (irT (tsX M 0) r c (obT (tsX M 0) r c))) i4) i17 (zrep (fun (r : Nat) (x : Int) => zrep (fun (c : Nat) (y : Int) => (fun (r : Int) => y + zbz (irT (tsX M 0) r c (obT (tsX M 0) r c))) r) (tW (tsX M 0)).toNat x) i4 0) + 1)), (0, zR 27)]) [0, 2, 1, 3] rfl ?_
            exact zJW_eq (by simp only [zrep_succ, h43, zbz_t, zbz_f, Int.add_zero, Int.natCast_add, Int.natCast_one]) rfl (by rfl) ih17

set_option maxRecDepth 100000 in
set_option maxHeartbeats 4000000 in
theorem ct_X5_reshapedByTile (M : Mem) (hS : zSk M 0) (hT : TbX M) (r c : Int) (hb_r : -1000 ≤ r ∧ r < 1000) (hb_c : -1000 ≤ c ∧ c < 1000)  : zCt yX5_reshapedByTile KX5_reshapedByTile [zR 27, zI r, zI c] M (fun zv zM => zv = some (rbT (tsX M 0) r c) ∧ zM = M) := by
  obtain ⟨hs1, hs2, hs3, hs4, hs5, hs6, hs7⟩ := id hS
  refine z_met (by decide) rfl (Nat.le_of_ble_eq_true rfl) (fun X hc he => ?_)
  show zJW X 0 [(0, zR 27), (1, zI r), (2, zI c)] [] M
  refine z_iconst (pc := 0) hc 0 dX5_reshapedByTile_0 ?_
  refine z_ist (pc := 1) (lv' := [(3, zI 0), (0, zR 27), (1, zI r), (2, zI c)]) hc rfl (by decide) dX5_reshapedByTile_1 ?_
  refine z_iconst (pc := 2) hc 0 dX5_reshapedByTile_2 ?_
  refine z_isw (pc := 3) (lv' := [(4, zI 0), (3, zI 0), (0, zR 27), (1, zI r), (2, zI c)]) hc rfl (by decide) dX5_reshapedByTile_3 ?_
  refine z_for 8 (fun i5 => [(4, zI ((i5 : Nat) : Int)), (3, zI (zrep (fun (d : Nat) (n : Int) => if (inT (tsX M 0) (r + zrow d) (c + zcol d) && irT (tsX M 0) (r + zrow d) (c + zcol d) (rtZ (zsl 1 d) 4)) = true then n + 1 else n) i5 0)), (0, zR 27), (1, zI r), (2, zI c)]) (fun i5 => M) (by rfl) (by rfl) ?_ (fun i5 hi5 ih5 => ?_)
  · show zJW X 5 [(4, zI 8), (3, zI (zrep (fun (d : Nat) (n : Int) => if (inT (tsX M 0) (r + zrow d) (c + zcol d) && irT (tsX M 0) (r + zrow d) (c + zcol d) (rtZ (zsl 1 d) 4)) = true then n + 1 else n) 8 0)), (0, zR 27), (1, zI r), (2, zI c)] [] M
    refine z_ilw (pc := 5) hc 0 rfl dX5_reshapedByTile_5 ?_
    refine z_bipush (pc := 7) hc 8 (by decide) dX5_reshapedByTile_7 ?_
    refine z_cge (pc := 9) (tgt := 76) hc (by omega) (by decide) dX5_reshapedByTile_9 (fun h9 => ?_) (fun h9 => ?_)
    · show zJW X 76 [(4, zI 8), (3, zI (zrep (fun (d : Nat) (n : Int) => if (inT (tsX M 0) (r + zrow d) (c + zcol d) && irT (tsX M 0) (r + zrow d) (c + zcol d) (rtZ (zsl 1 d) 4)) = true then n + 1 else n) 8 0)), (0, zR 27), (1, zI r), (2, zI c)] [] M
      refine z_ild (pc := 76) hc 1 rfl dX5_reshapedByTile_76 ?_
      exact z_iret (pc := 77) hc he rfl dX5_reshapedByTile_77 (⟨rfl, rfl⟩)
    · exfalso; omega
  · show zJW X 5 [(4, zI ((i5 : Nat) : Int)), (3, zI (zrep (fun (d : Nat) (n : Int) => if (inT (tsX M 0) (r + zrow d) (c + zcol d) && irT (tsX M 0) (r + zrow d) (c + zcol d) (rtZ (zsl 1 d) 4)) = true then n + 1 else n) i5 0)), (0, zR 27), (1, zI r), (2, zI c)] [] M
    have zr := zrow_bd (i5 : Int)
    have zc := zcol_bd (i5 : Int)
    refine z_ilw (pc := 5) hc 0 rfl dX5_reshapedByTile_5 ?_
    refine z_bipush (pc := 7) hc 8 (by decide) dX5_reshapedByTile_7 ?_
    refine z_cge (pc := 9) (tgt := 76) hc (by omega) (by decide) dX5_reshapedByTile_9 (fun h9 => ?_) (fun h9 => ?_)
    · exfalso; omega
    · show zJW X 12 [(4, zI ((i5 : Nat) : Int)), (3, zI (zrep (fun (d : Nat) (n : Int) => if (inT (tsX M 0) (r + zrow d) (c + zcol d) && irT (tsX M 0) (r + zrow d) (c + zcol d) (rtZ (zsl 1 d) 4)) = true then n + 1 else n) i5 0)), (0, zR 27), (1, zI r), (2, zI c)] [] M
      refine z_ild (pc := 12) hc 3 rfl dX5_reshapedByTile_12 ?_
      refine z_ilw (pc := 13) hc 0 rfl dX5_reshapedByTile_13 ?_
      refine kc_X5_178 (pc := 15) hc rfl (zfitS (by decide) rfl rfl) (Nat.le_of_ble_eq_true rfl) (ct_X5_rowStep M ((i5 : Nat) : Int) (by omega)) dX5_reshapedByTile_15 ?_
      refine z_iadd (pc := 18) hc dX5_reshapedByTile_18 ?_
      refine z_isw (pc := 19) (lv' := [(5, zI (r + (zrow ((i5 : Nat) : Int)))), (4, zI ((i5 : Nat) : Int)), (3, zI (zrep (fun (d : Nat) (n : Int) => if (inT (tsX M 0) (r + zrow d) (c + zcol d) && irT (tsX M 0) (r + zrow d) (c + zcol d) (rtZ (zsl 1 d) 4)) = true then n + 1 else n) i5 0)), (0, zR 27), (1, zI r), (2, zI c)]) hc rfl (by decide) dX5_reshapedByTile_19 ?_
      refine z_ild (pc := 21) hc 5 rfl dX5_reshapedByTile_21 ?_
      refine z_ilw (pc := 22) hc 1 rfl dX5_reshapedByTile_22 ?_
      refine kc_X5_181 (pc := 24) hc rfl (zfitS (by decide) rfl rfl) (Nat.le_of_ble_eq_true rfl) (ct_X5_columnStep M ((i5 : Nat) : Int) (by omega)) dX5_reshapedByTile_24 ?_
      refine z_iadd (pc := 27) hc dX5_reshapedByTile_27 ?_
      refine z_isw (pc := 28) (lv' := [(6, zI (c + (zcol ((i5 : Nat) : Int)))), (5, zI (r + (zrow ((i5 : Nat) : Int)))), (4, zI ((i5 : Nat) : Int)), (3, zI (zrep (fun (d : Nat) (n : Int) => if (inT (tsX M 0) (r + zrow d) (c + zcol d) && irT (tsX M 0) (r + zrow d) (c + zcol d) (rtZ (zsl 1 d) 4)) = true then n + 1 else n) i5 0)), (0, zR 27), (1, zI r), (2, zI c)]) hc rfl (by decide) dX5_reshapedByTile_28 ?_
      refine z_iconst (pc := 30) hc 1 dX5_reshapedByTile_30 ?_
      refine z_ilw (pc := 31) hc 2 rfl dX5_reshapedByTile_31 ?_
      refine z_ishl (pc := 33) hc dX5_reshapedByTile_33 ?_
      refine z_iconst (pc := 34) hc 4 dX5_reshapedByTile_34 ?_
      refine kc_X5_216 (pc := 35) hc rfl (zfit0 (by decide) rfl rfl) (Nat.le_of_ble_eq_true rfl) (ct_X5_rotated M (zsl 1 ((i5 : Nat) : Int)) 4) dX5_reshapedByTile_35 ?_
      refine z_isw (pc := 38) (lv' := [(7, zI (rtZ (zsl 1 ((i5 : Nat) : Int)) 4)), (6, zI (c + (zcol ((i5 : Nat) : Int)))), (5, zI (r + (zrow ((i5 : Nat) : Int)))), (4, zI ((i5 : Nat) : Int)), (3, zI (zrep (fun (d : Nat) (n : Int) => if (inT (tsX M 0) (r + zrow d) (c + zcol d) && irT (tsX M 0) (r + zrow d) (c + zcol d) (rtZ (zsl 1 d) 4)) = true then n + 1 else n) i5 0)), (0, zR 27), (1, zI r), (2, zI c)]) hc rfl (by decide) dX5_reshapedByTile_38 ?_
      refine z_ald (pc := 40) hc 5 rfl dX5_reshapedByTile_40 ?_
      refine fg_X5_19 (pc := 41) hc rfl rfl dX5_reshapedByTile_41 ?_
      refine z_ilw (pc := 44) hc 2 rfl dX5_reshapedByTile_44 ?_
      refine z_ilw (pc := 46) hc 1 rfl dX5_reshapedByTile_46 ?_
      refine kc_X5_73 (pc := 48) hc rfl (zfitX (by decide) rfl rfl) rfl (by decide) (Nat.le_of_ble_eq_true rfl) (ct_X3_has M 0 (by omega) (by first | assumption ) (r + (zrow ((i5 : Nat) : Int))) (c + (zcol ((i5 : Nat) : Int))) (by omega) (by omega)) dX5_reshapedByTile_48 ?_
      refine z_beq (pc := 51) (tgt := 70) hc (by decide) dX5_reshapedByTile_51 (fun h51 => ?_) (fun h51 => ?_)
      · show zJW X 70 [(7, zI (rtZ (zsl 1 ((i5 : Nat) : Int)) 4)), (6, zI (c + (zcol ((i5 : Nat) : Int)))), (5, zI (r + (zrow ((i5 : Nat) : Int)))), (4, zI ((i5 : Nat) : Int)), (3, zI (zrep (fun (d : Nat) (n : Int) => if (inT (tsX M 0) (r + zrow d) (c + zcol d) && irT (tsX M 0) (r + zrow d) (c + zcol d) (rtZ (zsl 1 d) 4)) = true then n + 1 else n) i5 0)), (0, zR 27), (1, zI r), (2, zI c)] [] M
        refine z_iinc (pc := 70) (lv' := [(4, zI (((i5 : Nat) : Int) + 1)), (7, zI (rtZ (zsl 1 ((i5 : Nat) : Int)) 4)), (6, zI (c + (zcol ((i5 : Nat) : Int)))), (5, zI (r + (zrow ((i5 : Nat) : Int)))), (3, zI (zrep (fun (d : Nat) (n : Int) => if (inT (tsX M 0) (r + zrow d) (c + zcol d) && irT (tsX M 0) (r + zrow d) (c + zcol d) (rtZ (zsl 1 d) 4)) = true then n + 1 else n) i5 0)), (0, zR 27), (1, zI r), (2, zI c)]) hc 3 rfl rfl (by decide) dX5_reshapedByTile_70 ?_
        refine z_goto (pc := 73) (tgt := 5) hc (by decide) dX5_reshapedByTile_73 ?_
        refine zJW_sub (lv' := [(4, zI (((i5 : Nat) : Int) + 1)), (3, zI (zrep (fun (d : Nat) (n : Int) => if (inT (tsX M 0) (r + zrow d) (c + zcol d) && irT (tsX M 0) (r + zrow d) (c + zcol d) (rtZ (zsl 1 d) 4)) = true then n + 1 else n) i5 0)), (0, zR 27), (1, zI r), (2, zI c)]) [0, 4, 5, 6, 7] rfl ?_
        exact zJW_eq (by first | (simp only [zrep_succ, h51, h64, Bool.and_self, Bool.and_true, Bool.true_and, Bool.false_and, Bool.and_false, ↓reduceIte, Bool.false_eq_true, Int.natCast_add, Int.natCast_one]; done) | (simp only [zrep_succ, h51, Bool.false_and, ↓reduceIte, Bool.false_eq_true, Int.natCast_add, Int.natCast_one])) rfl (by rfl) ih5
      · show zJW X 54 [(7, zI (rtZ (zsl 1 ((i5 : Nat) : Int)) 4)), (6, zI (c + (zcol ((i5 : Nat) : Int)))), (5, zI (r + (zrow ((i5 : Nat) : Int)))), (4, zI ((i5 : Nat) : Int)), (3, zI (zrep (fun (d : Nat) (n : Int) => if (inT (tsX M 0) (r + zrow d) (c + zcol d) && irT (tsX M 0) (r + zrow d) (c + zcol d) (rtZ (zsl 1 d) 4)) = true then n + 1 else n) i5 0)), (0, zR 27), (1, zI r), (2, zI c)] [] M
        refine z_ald (pc := 54) hc 5 rfl dX5_reshapedByTile_54 ?_
        refine z_ilw (pc := 55) hc 2 rfl dX5_reshapedByTile_55 ?_
        refine z_ilw (pc := 57) hc 1 rfl dX5_reshapedByTile_57 ?_
        refine z_ilw (pc := 59) hc 0 rfl dX5_reshapedByTile_59 ?_
        refine kc_X5_226 (pc := 61) hc rfl (zfitX (by decide) rfl rfl) rfl (Nat.le_of_ble_eq_true rfl) (ct_X5_isReshapedBy M (by assumption) (by assumption) (r + (zrow ((i5 : Nat) : Int))) (c + (zcol ((i5 : Nat) : Int))) (by omega) (by omega) (rtZ (zsl 1 ((i5 : Nat) : Int)) 4) (by first | omega | exact obT_bd _ _ _ | exact rtZ_bd _ _)) dX5_reshapedByTile_61 ?_
        refine z_beq (pc := 64) (tgt := 70) hc (by decide) dX5_reshapedByTile_64 (fun h64 => ?_) (fun h64 => ?_)
        · show zJW X 70 [(7, zI (rtZ (zsl 1 ((i5 : Nat) : Int)) 4)), (6, zI (c + (zcol ((i5 : Nat) : Int)))), (5, zI (r + (zrow ((i5 : Nat) : Int)))), (4, zI ((i5 : Nat) : Int)), (3, zI (zrep (fun (d : Nat) (n : Int) => if (inT (tsX M 0) (r + zrow d) (c + zcol d) && irT (tsX M 0) (r + zrow d) (c + zcol d) (rtZ (zsl 1 d) 4)) = true then n + 1 else n) i5 0)), (0, zR 27), (1, zI r), (2, zI c)] [] M
          refine z_iinc (pc := 70) (lv' := [(4, zI (((i5 : Nat) : Int) + 1)), (7, zI (rtZ (zsl 1 ((i5 : Nat) : Int)) 4)), (6, zI (c + (zcol ((i5 : Nat) : Int)))), (5, zI (r + (zrow ((i5 : Nat) : Int)))), (3, zI (zrep (fun (d : Nat) (n : Int) => if (inT (tsX M 0) (r + zrow d) (c + zcol d) && irT (tsX M 0) (r + zrow d) (c + zcol d) (rtZ (zsl 1 d) 4)) = true then n + 1 else n) i5 0)), (0, zR 27), (1, zI r), (2, zI c)]) hc 3 rfl rfl (by decide) dX5_reshapedByTile_70 ?_
          refine z_goto (pc := 73) (tgt := 5) hc (by decide) dX5_reshapedByTile_73 ?_
          refine zJW_sub (lv' := [(4, zI (((i5 : Nat) : Int) + 1)), (3, zI (zrep (fun (d : Nat) (n : Int) => if (inT (tsX M 0) (r + zrow d) (c + zcol d) && irT (tsX M 0) (r + zrow d) (c + zcol d) (rtZ (zsl 1 d) 4)) = true then n + 1 else n) i5 0)), (0, zR 27), (1, zI r), (2, zI c)]) [0, 4, 5, 6, 7] rfl ?_
          exact zJW_eq (by first | (simp only [zrep_succ, h51, h64, Bool.and_self, Bool.and_true, Bool.true_and, Bool.false_and, Bool.and_false, ↓reduceIte, Bool.false_eq_true, Int.natCast_add, Int.natCast_one]; done) | (simp only [zrep_succ, h51, Bool.false_and, ↓reduceIte, Bool.false_eq_true, Int.natCast_add, Int.natCast_one])) rfl (by rfl) ih5
        · show zJW X 67 [(7, zI (rtZ (zsl 1 ((i5 : Nat) : Int)) 4)), (6, zI (c + (zcol ((i5 : Nat) : Int)))), (5, zI (r + (zrow ((i5 : Nat) : Int)))), (4, zI ((i5 : Nat) : Int)), (3, zI (zrep (fun (d : Nat) (n : Int) => if (inT (tsX M 0) (r + zrow d) (c + zcol d) && irT (tsX M 0) (r + zrow d) (c + zcol d) (rtZ (zsl 1 d) 4)) = true then n + 1 else n) i5 0)), (0, zR 27), (1, zI r), (2, zI c)] [] M
          refine z_iinc (pc := 67) (lv' := [(3, zI (zrep (fun (d : Nat) (n : Int) => if (inT (tsX M 0) (r + zrow d) (c + zcol d) && irT (tsX M 0) (r + zrow d) (c + zcol d) (rtZ (zsl 1 d) 4)) = true then n + 1 else n) i5 0 + 1)), (7, zI (rtZ (zsl 1 ((i5 : Nat) : Int)) 4)), (6, zI (c + (zcol ((i5 : Nat) : Int)))), (5, zI (r + (zrow ((i5 : Nat) : Int)))), (4, zI ((i5 : Nat) : Int)), (0, zR 27), (1, zI r), (2, zI c)]) hc 4 rfl rfl (by decide) dX5_reshapedByTile_67 ?_
          refine z_iinc (pc := 70) (lv' := [(4, zI (((i5 : Nat) : Int) + 1)), (3, zI (zrep (fun (d : Nat) (n : Int) => if (inT (tsX M 0) (r + zrow d) (c + zcol d) && irT (tsX M 0) (r + zrow d) (c + zcol d) (rtZ (zsl 1 d) 4)) = true then n + 1 else n) i5 0 + 1)), (7, zI (rtZ (zsl 1 ((i5 : Nat) : Int)) 4)), (6, zI (c + (zcol ((i5 : Nat) : Int)))), (5, zI (r + (zrow ((i5 : Nat) : Int)))), (0, zR 27), (1, zI r), (2, zI c)]) hc 4 rfl rfl (by decide) dX5_reshapedByTile_70 ?_
          refine z_goto (pc := 73) (tgt := 5) hc (by decide) dX5_reshapedByTile_73 ?_
          refine zJW_sub (lv' := [(4, zI (((i5 : Nat) : Int) + 1)), (3, zI (zrep (fun (d : Nat) (n : Int) => if (inT (tsX M 0) (r + zrow d) (c + zcol d) && irT (tsX M 0) (r + zrow d) (c + zcol d) (rtZ (zsl 1 d) 4)) = true then n + 1 else n) i5 0 + 1)), (0, zR 27), (1, zI r), (2, zI c)]) [0, 1, 5, 6, 7] rfl ?_
          exact zJW_eq (by first | (simp only [zrep_succ, h51, h64, Bool.and_self, Bool.and_true, Bool.true_and, Bool.false_and, Bool.and_false, ↓reduceIte, Bool.false_eq_true, Int.natCast_add, Int.natCast_one]; done) | (simp only [zrep_succ, h51, Bool.false_and, ↓reduceIte, Bool.false_eq_true, Int.natCast_add, Int.natCast_one])) rfl (by rfl) ih5

set_option maxRecDepth 100000 in
set_option maxHeartbeats 4000000 in
theorem ct_X5_begin (M : Mem) (hI : XI M) (r : Int) (hb_r : -2147483648 ≤ r ∧ r < 2147483648) (c : Int) (hb_c : -2147483648 ≤ c ∧ c < 2147483648)  : zCt yX5_begin KX5_begin [zR 27, zI r, zI c] M (fun zv zM => zv = some (if 1 ≤ r ∧ r ≤ 12 ∧ 1 ≤ c ∧ c ≤ 12 then r * c else -2) ∧ zM = (if 1 ≤ r ∧ r ≤ 12 ∧ 1 ≤ c ∧ c ≤ 12 then watM (recM M) 0 r c 144 else M)) := by
  obtain ⟨hT, hSa, hH⟩ := id hI
  have hS := hSa 0 (by decide)
  obtain ⟨hs1, hs2, hs3, hs4, hs5, hs6, hs7⟩ := id hS
  have hI1 := recM_XI hI
  obtain ⟨hT1, hSb, hH1⟩ := id hI1
  have hS1 := hSb 0 (by decide)
  obtain ⟨hr1, hr2, hr3, hr4, hr5, hr6, hr7⟩ := id hS1
  have ht1 := recM_ts hI
  have hm0 : recM M 0 = M 0 := recM_off hH (by decide) (by decide) (by omega)
  refine z_met (by decide) rfl (Nat.le_of_ble_eq_true rfl) (fun X hc he => ?_)
  show zJW X 0 [(0, zR 27), (1, zI r), (2, zI c)] [] M
  refine z_ild (pc := 0) hc 1 rfl dX5_begin_0 ?_
  refine kc_X5_54 (pc := 1) hc rfl (zfit0 (by decide) rfl rfl) (Nat.le_of_ble_eq_true rfl) (ct_X5_isLineCount M r (by omega)) dX5_begin_1 ?_
  refine z_beq (pc := 4) (tgt := 14) hc (by decide) dX5_begin_4 (fun h4 => ?_) (fun h4 => ?_)
  · show zJW X 14 [(0, zR 27), (1, zI r), (2, zI c)] [] M
    refine z_bipush (pc := 14) hc (-2) (by decide) dX5_begin_14 ?_
    exact z_iret (pc := 16) hc he rfl dX5_begin_16 (by first | (have h4 := of_decide_eq_false h4; exact ⟨by rw [if_neg (by omega)], by rw [if_neg (by omega)]⟩) | (have h11 := of_decide_eq_false h11; exact ⟨by rw [if_neg (by omega)], by rw [if_neg (by omega)]⟩))
  · show zJW X 7 [(0, zR 27), (1, zI r), (2, zI c)] [] M
    refine z_ild (pc := 7) hc 2 rfl dX5_begin_7 ?_
    refine kc_X5_54 (pc := 8) hc rfl (zfit0 (by decide) rfl rfl) (Nat.le_of_ble_eq_true rfl) (ct_X5_isLineCount M c (by omega)) dX5_begin_8 ?_
    refine z_bne (pc := 11) (tgt := 17) hc (by decide) dX5_begin_11 (fun h11 => ?_) (fun h11 => ?_)
    · show zJW X 17 [(0, zR 27), (1, zI r), (2, zI c)] [] M
      have h4 := of_decide_eq_true h4
      have h11 := of_decide_eq_true h11
      refine z_ald (pc := 17) hc 0 rfl dX5_begin_17 ?_
      refine fg_X5_36 (pc := 18) hc rfl rfl dX5_begin_18 ?_
      refine z_ald (pc := 21) hc 0 rfl dX5_begin_21 ?_
      refine fg_X5_19 (pc := 22) hc rfl rfl dX5_begin_22 ?_
      refine kc_X5_58 (pc := 25) hc rfl (zfitX (by decide) rfl rfl) rfl (Nat.le_of_ble_eq_true rfl) (ct_X0_record M (by assumption) (by assumption) ) dX5_begin_25 ?_
      refine z_ald (pc := 28) hc 0 rfl dX5_begin_28 ?_
      refine fg_X5_19 (pc := 29) hc rfl rfl dX5_begin_29 ?_
      refine z_ild (pc := 32) hc 1 rfl dX5_begin_32 ?_
      refine z_ild (pc := 33) hc 2 rfl dX5_begin_33 ?_
      refine kc_X5_62 (pc := 34) hc rfl (zfitX (by decide) rfl rfl) rfl (by decide) (Nat.le_of_ble_eq_true rfl) (ct_X3_becomeWater (recM M) 0 (by omega) r c (by omega) (by omega)) dX5_begin_34 ?_
      refine z_ild (pc := 37) hc 1 rfl dX5_begin_37 ?_
      refine z_ild (pc := 38) hc 2 rfl dX5_begin_38 ?_
      refine z_imul (pc := 39) hc dX5_begin_39 ?_
      exact z_iret (pc := 40) hc he rfl dX5_begin_40 (⟨by rw [if_pos (by omega)], by rw [if_pos (by omega)]⟩)
    · show zJW X 14 [(0, zR 27), (1, zI r), (2, zI c)] [] M
      refine z_bipush (pc := 14) hc (-2) (by decide) dX5_begin_14 ?_
      exact z_iret (pc := 16) hc he rfl dX5_begin_16 (by first | (have h4 := of_decide_eq_false h4; exact ⟨by rw [if_neg (by omega)], by rw [if_neg (by omega)]⟩) | (have h11 := of_decide_eq_false h11; exact ⟨by rw [if_neg (by omega)], by rw [if_neg (by omega)]⟩))

set_option maxRecDepth 100000 in
set_option maxHeartbeats 4000000 in
theorem ct_X5_pin (M : Mem) (hI : XI M) (r : Int) (hb_r : -2147483648 ≤ r ∧ r < 2147483648) (c : Int) (hb_c : -2147483648 ≤ c ∧ c < 2147483648) (s : Int) (hb_s : -2147483648 ≤ s ∧ s < 2147483648)  : zCt yX5_pin KX5_pin [zR 27, zI r, zI c, zI s] M (fun zv zM => zv = some (if inT (tsX M 0) r c = true ∧ 0 ≤ s ∧ s < 47 then (if laT (tsX M 0) r c then faT (tsX (putP (recM M) 0 r c s) 0) r c else -3) else -1) ∧ zM = (if (inT (tsX M 0) r c = true ∧ 0 ≤ s ∧ s < 47) ∧ laT (tsX M 0) r c = true then (putP (recM M) 0 r c s) else M)) := by
  obtain ⟨hT, hSa, hH⟩ := id hI
  have hS := hSa 0 (by decide)
  obtain ⟨hs1, hs2, hs3, hs4, hs5, hs6, hs7⟩ := id hS
  have hI1 := recM_XI hI
  obtain ⟨hT1, hSb, hH1⟩ := id hI1
  have hS1 := hSb 0 (by decide)
  obtain ⟨hr1, hr2, hr3, hr4, hr5, hr6, hr7⟩ := id hS1
  have ht1 := recM_ts hI
  have hm0 : recM M 0 = M 0 := recM_off hH (by decide) (by decide) (by omega)
  refine z_met (by decide) rfl (Nat.le_of_ble_eq_true rfl) (fun X hc he => ?_)
  show zJW X 0 [(0, zR 27), (1, zI r), (2, zI c), (3, zI s)] [] M
  refine z_ald (pc := 0) hc 0 rfl dX5_pin_0 ?_
  refine fg_X5_19 (pc := 1) hc rfl rfl dX5_pin_1 ?_
  refine z_ild (pc := 4) hc 1 rfl dX5_pin_4 ?_
  refine z_ild (pc := 5) hc 2 rfl dX5_pin_5 ?_
  refine kc_X5_73 (pc := 6) hc rfl (zfitX (by decide) rfl rfl) rfl (by decide) (Nat.le_of_ble_eq_true rfl) (ct_X3_has M 0 (by omega) (by first | assumption ) r c (by omega) (by omega)) dX5_pin_6 ?_
  refine z_beq (pc := 9) (tgt := 19) hc (by decide) dX5_pin_9 (fun h9 => ?_) (fun h9 => ?_)
  · show zJW X 19 [(0, zR 27), (1, zI r), (2, zI c), (3, zI s)] [] M
    refine z_iconst (pc := 19) hc (-1) dX5_pin_19 ?_
    exact z_iret (pc := 20) hc he rfl dX5_pin_20 (by first | (have h16 := of_decide_eq_false h16; exact ⟨by rw [if_neg (fun h => h16 h.2)], by rw [if_neg (fun h => h16 h.1.2)]⟩) | exact ⟨by rw [if_neg (fun h => by rw [h9] at h; exact absurd h.1 (by decide))], by rw [if_neg (fun h => by rw [h9] at h; exact absurd h.1.1 (by decide))]⟩)
  · show zJW X 12 [(0, zR 27), (1, zI r), (2, zI c), (3, zI s)] [] M
    have h9' := h9
    rw [inT_X] at h9'
    have h9' := of_decide_eq_true h9'
    refine z_ild (pc := 12) hc 3 rfl dX5_pin_12 ?_
    refine kc_X5_135 (pc := 13) hc rfl (zfit0 (by decide) rfl rfl) (Nat.le_of_ble_eq_true rfl) (ct_X5_isShape M s (by omega)) dX5_pin_13 ?_
    refine z_bne (pc := 16) (tgt := 21) hc (by decide) dX5_pin_16 (fun h16 => ?_) (fun h16 => ?_)
    · show zJW X 21 [(0, zR 27), (1, zI r), (2, zI c), (3, zI s)] [] M
      have h16 := of_decide_eq_true h16
      refine z_ald (pc := 21) hc 0 rfl dX5_pin_21 ?_
      refine fg_X5_19 (pc := 22) hc rfl rfl dX5_pin_22 ?_
      refine z_ild (pc := 25) hc 1 rfl dX5_pin_25 ?_
      refine z_ild (pc := 26) hc 2 rfl dX5_pin_26 ?_
      refine kc_X5_77 (pc := 27) hc rfl (zfitX (by decide) rfl rfl) rfl (by decide) (Nat.le_of_ble_eq_true rfl) (ct_X3_isLandAt M 0 (by omega) (by first | assumption ) r c (by omega) (by omega)) dX5_pin_27 ?_
      refine z_bne (pc := 30) (tgt := 36) hc (by decide) dX5_pin_30 (fun h30 => ?_) (fun h30 => ?_)
      · show zJW X 36 [(0, zR 27), (1, zI r), (2, zI c), (3, zI s)] [] M
        have hS4 : zSk (putP (recM M) 0 r c s) 0 := zSk_putP (by omega) hS1
        have hT4 : TbX (putP (recM M) 0 r c s) := by
          refine ⟨fun x a b => ?_, fun x a b => ?_⟩
          · rw [putP_off (by decide)]; exact hT1.1 x a b
          · rw [putP_off (by decide)]; exact hT1.2 x a b
        refine z_ald (pc := 36) hc 0 rfl dX5_pin_36 ?_
        refine fg_X5_36 (pc := 37) hc rfl rfl dX5_pin_37 ?_
        refine z_ald (pc := 40) hc 0 rfl dX5_pin_40 ?_
        refine fg_X5_19 (pc := 41) hc rfl rfl dX5_pin_41 ?_
        refine kc_X5_58 (pc := 44) hc rfl (zfitX (by decide) rfl rfl) rfl (Nat.le_of_ble_eq_true rfl) (ct_X0_record M (by assumption) (by assumption) ) dX5_pin_44 ?_
        refine z_ald (pc := 47) hc 0 rfl dX5_pin_47 ?_
        refine fg_X5_19 (pc := 48) hc rfl rfl dX5_pin_48 ?_
        refine z_ild (pc := 51) hc 1 rfl dX5_pin_51 ?_
        refine z_ild (pc := 52) hc 2 rfl dX5_pin_52 ?_
        refine z_ild (pc := 53) hc 3 rfl dX5_pin_53 ?_
        refine kc_X5_138 (pc := 54) hc rfl (zfitX (by decide) rfl rfl) rfl (by decide) (Nat.le_of_ble_eq_true rfl) (ct_X3_putPin (recM M) 0 (by omega) (by assumption) r c (by omega) (by omega) s) dX5_pin_54 ?_
        refine z_ald (pc := 57) hc 0 rfl dX5_pin_57 ?_
        refine z_ild (pc := 58) hc 1 rfl dX5_pin_58 ?_
        refine z_ild (pc := 59) hc 2 rfl dX5_pin_59 ?_
        refine kc_X5_132 (pc := 60) hc rfl (zfitX (by decide) rfl rfl) rfl (Nat.le_of_ble_eq_true rfl) (ct_X5_faultsAt (putP (recM M) 0 r c s) (by assumption) (by assumption) r c (by omega) (by omega)) dX5_pin_60 ?_
        exact z_iret (pc := 63) hc he rfl dX5_pin_63 (⟨by rw [if_pos ⟨h9, h16⟩, if_pos h30], by rw [if_pos ⟨⟨h9, h16⟩, h30⟩]⟩)
      · show zJW X 33 [(0, zR 27), (1, zI r), (2, zI c), (3, zI s)] [] M
        refine z_bipush (pc := 33) hc (-3) (by decide) dX5_pin_33 ?_
        exact z_iret (pc := 35) hc he rfl dX5_pin_35 (⟨by rw [if_pos ⟨h9, h16⟩, h30]; rfl, by rw [if_neg (fun h => by rw [h30] at h; exact absurd h.2 (by decide))]⟩)
    · show zJW X 19 [(0, zR 27), (1, zI r), (2, zI c), (3, zI s)] [] M
      refine z_iconst (pc := 19) hc (-1) dX5_pin_19 ?_
      exact z_iret (pc := 20) hc he rfl dX5_pin_20 (by first | (have h16 := of_decide_eq_false h16; exact ⟨by rw [if_neg (fun h => h16 h.2)], by rw [if_neg (fun h => h16 h.1.2)]⟩) | exact ⟨by rw [if_neg (fun h => by rw [h9] at h; exact absurd h.1 (by decide))], by rw [if_neg (fun h => by rw [h9] at h; exact absurd h.1.1 (by decide))]⟩)

set_option maxRecDepth 100000 in
set_option maxHeartbeats 4000000 in
theorem ct_X5_unpin (M : Mem) (hI : XI M) (r : Int) (hb_r : -2147483648 ≤ r ∧ r < 2147483648) (c : Int) (hb_c : -2147483648 ≤ c ∧ c < 2147483648)  : zCt yX5_unpin KX5_unpin [zR 27, zI r, zI c] M (fun zv zM => zv = some (if inT (tsX M 0) r c = true then (if piT (tsX M 0) r c ≠ -1 then piT (tsX M 0) r c else -3) else -1) ∧ zM = (if inT (tsX M 0) r c = true ∧ piT (tsX M 0) r c ≠ -1 then (putP (recM M) 0 r c (-1)) else M)) := by
  obtain ⟨hT, hSa, hH⟩ := id hI
  have hS := hSa 0 (by decide)
  obtain ⟨hs1, hs2, hs3, hs4, hs5, hs6, hs7⟩ := id hS
  have hI1 := recM_XI hI
  obtain ⟨hT1, hSb, hH1⟩ := id hI1
  have hS1 := hSb 0 (by decide)
  obtain ⟨hr1, hr2, hr3, hr4, hr5, hr6, hr7⟩ := id hS1
  have ht1 := recM_ts hI
  have hm0 : recM M 0 = M 0 := recM_off hH (by decide) (by decide) (by omega)
  refine z_met (by decide) rfl (Nat.le_of_ble_eq_true rfl) (fun X hc he => ?_)
  show zJW X 0 [(0, zR 27), (1, zI r), (2, zI c)] [] M
  refine z_ald (pc := 0) hc 0 rfl dX5_unpin_0 ?_
  refine fg_X5_19 (pc := 1) hc rfl rfl dX5_unpin_1 ?_
  refine z_ild (pc := 4) hc 1 rfl dX5_unpin_4 ?_
  refine z_ild (pc := 5) hc 2 rfl dX5_unpin_5 ?_
  refine kc_X5_73 (pc := 6) hc rfl (zfitX (by decide) rfl rfl) rfl (by decide) (Nat.le_of_ble_eq_true rfl) (ct_X3_has M 0 (by omega) (by first | assumption ) r c (by omega) (by omega)) dX5_unpin_6 ?_
  refine z_bne (pc := 9) (tgt := 14) hc (by decide) dX5_unpin_9 (fun h9 => ?_) (fun h9 => ?_)
  · show zJW X 14 [(0, zR 27), (1, zI r), (2, zI c)] [] M
    have h9' := h9
    rw [inT_X] at h9'
    have h9' := of_decide_eq_true h9'
    refine z_ald (pc := 14) hc 0 rfl dX5_unpin_14 ?_
    refine fg_X5_19 (pc := 15) hc rfl rfl dX5_unpin_15 ?_
    refine z_ild (pc := 18) hc 1 rfl dX5_unpin_18 ?_
    refine z_ild (pc := 19) hc 2 rfl dX5_unpin_19 ?_
    refine kc_X5_129 (pc := 20) hc rfl (zfitX (by decide) rfl rfl) rfl (by decide) (Nat.le_of_ble_eq_true rfl) (ct_X3_isPinnedAt M 0 (by omega) (by first | assumption ) r c (by omega) (by omega)) dX5_unpin_20 ?_
    refine z_bne (pc := 23) (tgt := 29) hc (by decide) dX5_unpin_23 (fun h23 => ?_) (fun h23 => ?_)
    · show zJW X 29 [(0, zR 27), (1, zI r), (2, zI c)] [] M
      have h23 := of_decide_eq_true h23
      refine z_ald (pc := 29) hc 0 rfl dX5_unpin_29 ?_
      refine fg_X5_36 (pc := 30) hc rfl rfl dX5_unpin_30 ?_
      refine z_ald (pc := 33) hc 0 rfl dX5_unpin_33 ?_
      refine fg_X5_19 (pc := 34) hc rfl rfl dX5_unpin_34 ?_
      refine kc_X5_58 (pc := 37) hc rfl (zfitX (by decide) rfl rfl) rfl (Nat.le_of_ble_eq_true rfl) (ct_X0_record M (by assumption) (by assumption) ) dX5_unpin_37 ?_
      refine z_ald (pc := 40) hc 0 rfl dX5_unpin_40 ?_
      refine fg_X5_19 (pc := 41) hc rfl rfl dX5_unpin_41 ?_
      refine z_ild (pc := 44) hc 1 rfl dX5_unpin_44 ?_
      refine z_ild (pc := 45) hc 2 rfl dX5_unpin_45 ?_
      refine kc_X5_142 (pc := 46) hc rfl (zfitX (by decide) rfl rfl) rfl (by decide) (Nat.le_of_ble_eq_true rfl) (ct_X3_pinAt (recM M) 0 (by omega) (by first | assumption ) r c (by omega) (by omega)) dX5_unpin_46 ?_
      refine z_ist (pc := 49) (lv' := [(3, zI (piT (tsX (recM M) 0) r c)), (0, zR 27), (1, zI r), (2, zI c)]) hc rfl (by decide) dX5_unpin_49 ?_
      refine z_ald (pc := 50) hc 1 rfl dX5_unpin_50 ?_
      refine fg_X5_19 (pc := 51) hc rfl rfl dX5_unpin_51 ?_
      refine z_ild (pc := 54) hc 2 rfl dX5_unpin_54 ?_
      refine z_ild (pc := 55) hc 3 rfl dX5_unpin_55 ?_
      refine z_iconst (pc := 56) hc (-1) dX5_unpin_56 ?_
      refine kc_X5_138 (pc := 57) hc rfl (zfitX (by decide) rfl rfl) rfl (by decide) (Nat.le_of_ble_eq_true rfl) (ct_X3_putPin (recM M) 0 (by omega) (by assumption) r c (by omega) (by omega) (-1)) dX5_unpin_57 ?_
      refine z_ild (pc := 60) hc 0 rfl dX5_unpin_60 ?_
      exact z_iret (pc := 61) hc he rfl dX5_unpin_61 (⟨by rw [if_pos h9, if_pos h23, ht1], by rw [if_pos ⟨h9, h23⟩]⟩)
    · show zJW X 26 [(0, zR 27), (1, zI r), (2, zI c)] [] M
      refine z_bipush (pc := 26) hc (-3) (by decide) dX5_unpin_26 ?_
      exact z_iret (pc := 28) hc he rfl dX5_unpin_28 (by have h23 := of_decide_eq_false h23; exact ⟨by rw [if_pos h9, if_neg h23], by rw [if_neg (fun h => h23 h.2)]⟩)
  · show zJW X 12 [(0, zR 27), (1, zI r), (2, zI c)] [] M
    refine z_iconst (pc := 12) hc (-1) dX5_unpin_12 ?_
    exact z_iret (pc := 13) hc he rfl dX5_unpin_13 (⟨by rw [h9]; rfl, by rw [if_neg (fun h => by rw [h9] at h; exact absurd h.1 (by decide))]⟩)

set_option maxRecDepth 100000 in
set_option maxHeartbeats 4000000 in
theorem ct_X5_setOutside (M : Mem) (hI : XI M)  (b : Bool)  : zCt yX5_setOutside KX5_setOutside [zR 27, zI (zbz b)] M (fun zv zM => zv = some (if tO (tsX M 0) = b then 0 else roA (tsX M 0)) ∧ zM = (zup (recM M) 0 2 (zbz b))) := by
  obtain ⟨hT, hSa, hH⟩ := id hI
  have hS := hSa 0 (by decide)
  obtain ⟨hs1, hs2, hs3, hs4, hs5, hs6, hs7⟩ := id hS
  have hI1 := recM_XI hI
  obtain ⟨hT1, hSb, hH1⟩ := id hI1
  have hS1 := hSb 0 (by decide)
  obtain ⟨hr1, hr2, hr3, hr4, hr5, hr6, hr7⟩ := id hS1
  have ht1 := recM_ts hI
  have hm0 : recM M 0 = M 0 := recM_off hH (by decide) (by decide) (by omega)
  have ho0 : recM M 0 2 = M 0 2 := congrFun hm0 2
  have ho1 : (tO (tsX M 0) = b) ↔ M 0 2 = zbz b := by
    show decide (M 0 2 = 1) = b ↔ _
    rcases hs5 with h | h <;> rw [h] <;> cases b <;> decide
  refine z_met (by decide) rfl (Nat.le_of_ble_eq_true rfl) (fun X hc he => ?_)
  show zJW X 0 [(0, zR 27), (1, zI (zbz b))] [] M
  refine z_ald (pc := 0) hc 0 rfl dX5_setOutside_0 ?_
  refine fg_X5_36 (pc := 1) hc rfl rfl dX5_setOutside_1 ?_
  refine z_ald (pc := 4) hc 0 rfl dX5_setOutside_4 ?_
  refine fg_X5_19 (pc := 5) hc rfl rfl dX5_setOutside_5 ?_
  refine kc_X5_58 (pc := 8) hc rfl (zfitX (by decide) rfl rfl) rfl (Nat.le_of_ble_eq_true rfl) (ct_X0_record M (by assumption) (by assumption) ) dX5_setOutside_8 ?_
  refine z_ild (pc := 11) hc 1 rfl dX5_setOutside_11 ?_
  refine z_ald (pc := 12) hc 0 rfl dX5_setOutside_12 ?_
  refine fg_X5_19 (pc := 13) hc rfl rfl dX5_setOutside_13 ?_
  refine fg_X5_66 (pc := 16) hc rfl rfl (by decide) dX5_setOutside_16 ?_
  refine z_cne (pc := 19) (tgt := 26) hc (by have := zbz_bd b; omega) (by decide) dX5_setOutside_19 (fun h19 => ?_) (fun h19 => ?_)
  · show zJW X 26 [(0, zR 27), (1, zI (zbz b))] [] (recM M)
    refine z_ald (pc := 26) hc 0 rfl dX5_setOutside_26 ?_
    refine kc_X5_69 (pc := 27) hc rfl (zfitX (by decide) rfl rfl) rfl (Nat.le_of_ble_eq_true rfl) (ct_X5_reshapedByOutside (recM M) (by assumption) (by assumption) ) dX5_setOutside_27 ?_
    refine z_ist (pc := 30) (lv' := [(2, zI (roA (tsX (recM M) 0))), (0, zR 27), (1, zI (zbz b))]) hc rfl (by decide) dX5_setOutside_30 ?_
    refine z_ald (pc := 31) hc 1 rfl dX5_setOutside_31 ?_
    refine fg_X5_19 (pc := 32) hc rfl rfl dX5_setOutside_32 ?_
    refine z_ild (pc := 35) hc 2 rfl dX5_setOutside_35 ?_
    refine fp_X5_66 (pc := 36) (b := b) hc rfl rfl (by decide) dX5_setOutside_36 ?_
    refine z_ild (pc := 39) hc 0 rfl dX5_setOutside_39 ?_
    exact z_iret (pc := 40) hc he rfl dX5_setOutside_40 (by refine ⟨congrArg some ?_, rfl⟩; first | (rw [if_pos (ho1.mpr (by omega))]; done) | rw [if_neg (fun h => by have := ho1.mp h; omega), ht1])
  · show zJW X 22 [(0, zR 27), (1, zI (zbz b))] [] (recM M)
    refine z_iconst (pc := 22) hc 0 dX5_setOutside_22 ?_
    refine z_goto (pc := 23) (tgt := 30) hc (by decide) dX5_setOutside_23 ?_
    refine z_ist (pc := 30) (lv' := [(2, zI 0), (0, zR 27), (1, zI (zbz b))]) hc rfl (by decide) dX5_setOutside_30 ?_
    refine z_ald (pc := 31) hc 1 rfl dX5_setOutside_31 ?_
    refine fg_X5_19 (pc := 32) hc rfl rfl dX5_setOutside_32 ?_
    refine z_ild (pc := 35) hc 2 rfl dX5_setOutside_35 ?_
    refine fp_X5_66 (pc := 36) (b := b) hc rfl rfl (by decide) dX5_setOutside_36 ?_
    refine z_ild (pc := 39) hc 0 rfl dX5_setOutside_39 ?_
    exact z_iret (pc := 40) hc he rfl dX5_setOutside_40 (by refine ⟨congrArg some ?_, rfl⟩; first | (rw [if_pos (ho1.mpr (by omega))]; done) | rw [if_neg (fun h => by have := ho1.mp h; omega), ht1])

set_option maxRecDepth 100000 in
set_option maxHeartbeats 4000000 in
theorem ct_X5_set (M : Mem) (hI : XI M) (r : Int) (hb_r : -2147483648 ≤ r ∧ r < 2147483648) (c : Int) (hb_c : -2147483648 ≤ c ∧ c < 2147483648) (b : Bool)  : zCt yX5_set KX5_set [zR 27, zI r, zI c, zI (zbz b)] M (fun zv zM => zv = some (if inT (tsX M 0) r c = true then (if laT (tsX M 0) r c = b then 0 else rbT (tsX M 0) r c) else -1) ∧ zM = (if inT (tsX M 0) r c = true then putK (recM M) 0 r c b else M)) := by
  obtain ⟨hT, hSa, hH⟩ := id hI
  have hS := hSa 0 (by decide)
  obtain ⟨hs1, hs2, hs3, hs4, hs5, hs6, hs7⟩ := id hS
  have hI1 := recM_XI hI
  obtain ⟨hT1, hSb, hH1⟩ := id hI1
  have hS1 := hSb 0 (by decide)
  obtain ⟨hr1, hr2, hr3, hr4, hr5, hr6, hr7⟩ := id hS1
  have ht1 := recM_ts hI
  have hm0 : recM M 0 = M 0 := recM_off hH (by decide) (by decide) (by omega)
  refine z_met (by decide) rfl (Nat.le_of_ble_eq_true rfl) (fun X hc he => ?_)
  show zJW X 0 [(0, zR 27), (1, zI r), (2, zI c), (3, zI (zbz b))] [] M
  refine z_ald (pc := 0) hc 0 rfl dX5_set_0 ?_
  refine fg_X5_19 (pc := 1) hc rfl rfl dX5_set_1 ?_
  refine z_ild (pc := 4) hc 1 rfl dX5_set_4 ?_
  refine z_ild (pc := 5) hc 2 rfl dX5_set_5 ?_
  refine kc_X5_73 (pc := 6) hc rfl (zfitX (by decide) rfl rfl) rfl (by decide) (Nat.le_of_ble_eq_true rfl) (ct_X3_has M 0 (by omega) (by first | assumption ) r c (by omega) (by omega)) dX5_set_6 ?_
  refine z_bne (pc := 9) (tgt := 14) hc (by decide) dX5_set_9 (fun h9 => ?_) (fun h9 => ?_)
  · show zJW X 14 [(0, zR 27), (1, zI r), (2, zI c), (3, zI (zbz b))] [] M
    have h9' := h9
    rw [inT_X] at h9'
    have h9' := of_decide_eq_true h9'
    refine z_ald (pc := 14) hc 0 rfl dX5_set_14 ?_
    refine fg_X5_36 (pc := 15) hc rfl rfl dX5_set_15 ?_
    refine z_ald (pc := 18) hc 0 rfl dX5_set_18 ?_
    refine fg_X5_19 (pc := 19) hc rfl rfl dX5_set_19 ?_
    refine kc_X5_58 (pc := 22) hc rfl (zfitX (by decide) rfl rfl) rfl (Nat.le_of_ble_eq_true rfl) (ct_X0_record M (by assumption) (by assumption) ) dX5_set_22 ?_
    refine z_ild (pc := 25) hc 3 rfl dX5_set_25 ?_
    refine z_ald (pc := 26) hc 0 rfl dX5_set_26 ?_
    refine fg_X5_19 (pc := 27) hc rfl rfl dX5_set_27 ?_
    refine z_ild (pc := 30) hc 1 rfl dX5_set_30 ?_
    refine z_ild (pc := 31) hc 2 rfl dX5_set_31 ?_
    refine kc_X5_77 (pc := 32) hc rfl (zfitX (by decide) rfl rfl) rfl (by decide) (Nat.le_of_ble_eq_true rfl) (ct_X3_isLandAt (recM M) 0 (by omega) (by first | assumption ) r c (by omega) (by omega)) dX5_set_32 ?_
    refine z_cne (pc := 35) (tgt := 42) hc (by have := zbz_bd b; have := zbz_bd (laT (tsX (recM M) 0) r c); omega) (by decide) dX5_set_35 (fun h35 => ?_) (fun h35 => ?_)
    · show zJW X 42 [(0, zR 27), (1, zI r), (2, zI c), (3, zI (zbz b))] [] (recM M)
      refine z_ald (pc := 42) hc 0 rfl dX5_set_42 ?_
      refine z_ild (pc := 43) hc 1 rfl dX5_set_43 ?_
      refine z_ild (pc := 44) hc 2 rfl dX5_set_44 ?_
      refine kc_X5_80 (pc := 45) hc rfl (zfitX (by decide) rfl rfl) rfl (Nat.le_of_ble_eq_true rfl) (ct_X5_reshapedByTile (recM M) (by assumption) (by assumption) r c (by omega) (by omega)) dX5_set_45 ?_
      refine z_isw (pc := 48) (lv' := [(4, zI (rbT (tsX (recM M) 0) r c)), (0, zR 27), (1, zI r), (2, zI c), (3, zI (zbz b))]) hc rfl (by decide) dX5_set_48 ?_
      refine z_ald (pc := 50) hc 1 rfl dX5_set_50 ?_
      refine fg_X5_19 (pc := 51) hc rfl rfl dX5_set_51 ?_
      refine z_ild (pc := 54) hc 2 rfl dX5_set_54 ?_
      refine z_ild (pc := 55) hc 3 rfl dX5_set_55 ?_
      refine z_ild (pc := 56) hc 4 rfl dX5_set_56 ?_
      refine kc_X5_84 (pc := 57) hc rfl (zfitX (by decide) rfl rfl) rfl (by decide) (Nat.le_of_ble_eq_true rfl) (ct_X3_putKind (recM M) 0 (by omega) (by assumption) r c (by omega) (by omega) b) dX5_set_57 ?_
      refine z_pop (pc := 60) hc rfl dX5_set_60 ?_
      refine z_ilw (pc := 61) hc 0 rfl dX5_set_61 ?_
      exact z_iret (pc := 63) hc he rfl dX5_set_63 (by refine ⟨congrArg some ?_, by rw [if_pos h9]⟩; rw [if_pos h9, ← ht1]; first | (rw [if_pos (zbz_eq.mp h35).symm]; done) | rw [if_neg (fun h => (zbz_ne.mp h35) h.symm)])
    · show zJW X 38 [(0, zR 27), (1, zI r), (2, zI c), (3, zI (zbz b))] [] (recM M)
      refine z_iconst (pc := 38) hc 0 dX5_set_38 ?_
      refine z_goto (pc := 39) (tgt := 48) hc (by decide) dX5_set_39 ?_
      refine z_isw (pc := 48) (lv' := [(4, zI 0), (0, zR 27), (1, zI r), (2, zI c), (3, zI (zbz b))]) hc rfl (by decide) dX5_set_48 ?_
      refine z_ald (pc := 50) hc 1 rfl dX5_set_50 ?_
      refine fg_X5_19 (pc := 51) hc rfl rfl dX5_set_51 ?_
      refine z_ild (pc := 54) hc 2 rfl dX5_set_54 ?_
      refine z_ild (pc := 55) hc 3 rfl dX5_set_55 ?_
      refine z_ild (pc := 56) hc 4 rfl dX5_set_56 ?_
      refine kc_X5_84 (pc := 57) hc rfl (zfitX (by decide) rfl rfl) rfl (by decide) (Nat.le_of_ble_eq_true rfl) (ct_X3_putKind (recM M) 0 (by omega) (by assumption) r c (by omega) (by omega) b) dX5_set_57 ?_
      refine z_pop (pc := 60) hc rfl dX5_set_60 ?_
      refine z_ilw (pc := 61) hc 0 rfl dX5_set_61 ?_
      exact z_iret (pc := 63) hc he rfl dX5_set_63 (by refine ⟨congrArg some ?_, by rw [if_pos h9]⟩; rw [if_pos h9, ← ht1]; first | (rw [if_pos (zbz_eq.mp h35).symm]; done) | rw [if_neg (fun h => (zbz_ne.mp h35) h.symm)])
  · show zJW X 12 [(0, zR 27), (1, zI r), (2, zI c), (3, zI (zbz b))] [] M
    refine z_iconst (pc := 12) hc (-1) dX5_set_12 ?_
    exact z_iret (pc := 13) hc he rfl dX5_set_13 (⟨by rw [h9]; rfl, by rw [h9]; rfl⟩)
