set_option maxRecDepth 100000 in
set_option maxHeartbeats 4000000 in
theorem ct_X6_seeNone (M : Mem) : zCt yX6_seeNone KX6_seeNone [zR 38] M (fun zv zM => zv = none ∧ zM = snM M) := by
  refine z_met (by decide) rfl (Nat.le_of_ble_eq_true rfl) (fun X hc he => ?_)
  show zJW X 0 [(0, zR 38)] [] M
  refine z_iconst (pc := 0) hc 0 dX6_seeNone_0 ?_
  refine z_ist (pc := 1) (lv' := [(1, zI 0), (0, zR 38)]) hc rfl (by decide) dX6_seeNone_1 ?_
  refine z_for 144 (fun i2 => [(1, zI ((i2 : Nat) : Int)), (0, zR 38)]) (fun i2 => (filM M 51 ((i2 : Nat) : Int) (zbz false))) (by rfl) (by exact filM_0) ?_ (fun i2 hi2 ih2 => ?_)
  · show zJW X 2 [(1, zI 144), (0, zR 38)] [] (filM M 51 144 (zbz false))
    refine z_ild (pc := 2) hc 0 rfl dX6_seeNone_2 ?_
    refine z_sipush (pc := 3) hc 144 (by decide) dX6_seeNone_3 ?_
    refine z_cge (pc := 6) (tgt := 22) hc (by omega) (by decide) dX6_seeNone_6 (fun h6 => ?_) (fun h6 => ?_)
    · show zJW X 22 [(1, zI 144), (0, zR 38)] [] (filM M 51 144 (zbz false))
      exact z_vret (pc := 22) hc he rfl dX6_seeNone_22 (⟨rfl, rfl⟩)
    · exfalso; omega
  · show zJW X 2 [(1, zI ((i2 : Nat) : Int)), (0, zR 38)] [] (filM M 51 ((i2 : Nat) : Int) (zbz false))
    refine z_ild (pc := 2) hc 0 rfl dX6_seeNone_2 ?_
    refine z_sipush (pc := 3) hc 144 (by decide) dX6_seeNone_3 ?_
    refine z_cge (pc := 6) (tgt := 22) hc (by omega) (by decide) dX6_seeNone_6 (fun h6 => ?_) (fun h6 => ?_)
    · exfalso; omega
    · show zJW X 9 [(1, zI ((i2 : Nat) : Int)), (0, zR 38)] [] (filM M 51 ((i2 : Nat) : Int) (zbz false))
      refine z_ald (pc := 9) hc 1 rfl dX6_seeNone_9 ?_
      refine fg_X6_47 (pc := 10) hc rfl rfl dX6_seeNone_10 ?_
      refine z_ild (pc := 13) hc 0 rfl dX6_seeNone_13 ?_
      refine z_iconst (pc := 14) hc 0 dX6_seeNone_14 ?_
      refine z_zast (pc := 15) (v := zbz false) hc (zbz_nar false) rfl rfl rfl (by decide) (by omega) dX6_seeNone_15 ?_
      refine z_iinc (pc := 16) (lv' := [(1, zI (((i2 : Nat) : Int) + 1)), (0, zR 38)]) hc 0 rfl rfl (by decide) dX6_seeNone_16 ?_
      refine z_goto (pc := 19) (tgt := 2) hc (by decide) dX6_seeNone_19 ?_
      exact zJW_eq (by rfl) rfl (by exact filM_s i2) ih2

set_option maxRecDepth 100000 in
set_option maxHeartbeats 4000000 in
theorem ct_X6_seeFound (M : Mem) (hZ : zRf (M 39)) (hQ : frQ M)  : zCt yX6_seeFound KX6_seeFound [zR 38] M (fun zv zM => zv = none ∧ zM = sfM M (M 38 12).toNat) := by
  obtain ⟨hs1, hs2, hs3, hs4, hs5, hs6, hs7⟩ := id hZ
  have hw9 := zhw hs1 hs2 hs3 hs4
  obtain ⟨hq1, hq2, hq3⟩ := id hQ
  refine z_met (by decide) rfl (Nat.le_of_ble_eq_true rfl) (fun X hc he => ?_)
  show zJW X 0 [(0, zR 38)] [] M
  refine z_iconst (pc := 0) hc 0 dX6_seeFound_0 ?_
  refine z_ist (pc := 1) (lv' := [(1, zI 0), (0, zR 38)]) hc rfl (by decide) dX6_seeFound_1 ?_
  refine z_for ((M 38 12).toNat) (fun i2 => [(1, zI ((i2 : Nat) : Int)), (0, zR 38)]) (fun i2 => (sfM M i2)) (by rfl) (by rfl) ?_ (fun i2 hi2 ih2 => ?_)
  · show zJW X 2 [(1, zI ((((M 38 12).toNat) : Nat) : Int)), (0, zR 38)] [] (sfM M ((M 38 12).toNat))
    have e38b := congrFun (sfM_off (M := M) (k := 38) (by decide) (M 38 12).toNat) 12
    refine z_ild (pc := 2) hc 0 rfl dX6_seeFound_2 ?_
    refine z_ald (pc := 3) hc 1 rfl dX6_seeFound_3 ?_
    refine fg_X6_129 (pc := 4) hc rfl rfl dX6_seeFound_4 ?_
    refine z_cge (pc := 7) (tgt := 28) hc (by omega) (by decide) dX6_seeFound_7 (fun h7 => ?_) (fun h7 => ?_)
    · show zJW X 28 [(1, zI ((((M 38 12).toNat) : Nat) : Int)), (0, zR 38)] [] (sfM M ((M 38 12).toNat))
      exact z_vret (pc := 28) hc he rfl dX6_seeFound_28 (⟨rfl, rfl⟩)
    · exfalso; omega
  · show zJW X 2 [(1, zI ((i2 : Nat) : Int)), (0, zR 38)] [] (sfM M i2)
    have e38 : (sfM M i2) 38 = M 38 := sfM_off (by decide) i2
    have e38b := congrFun e38 12
    have h46 := hq3 (i2 : Int) (by omega) (by omega)
    have e46 : (sfM M i2) 46 = M 46 := sfM_off (by decide) i2
    refine z_ild (pc := 2) hc 0 rfl dX6_seeFound_2 ?_
    refine z_ald (pc := 3) hc 1 rfl dX6_seeFound_3 ?_
    refine fg_X6_129 (pc := 4) hc rfl rfl dX6_seeFound_4 ?_
    refine z_cge (pc := 7) (tgt := 28) hc (by omega) (by decide) dX6_seeFound_7 (fun h7 => ?_) (fun h7 => ?_)
    · exfalso; omega
    · show zJW X 10 [(1, zI ((i2 : Nat) : Int)), (0, zR 38)] [] (sfM M i2)
      refine z_ald (pc := 10) hc 1 rfl dX6_seeFound_10 ?_
      refine fg_X6_47 (pc := 11) hc rfl rfl dX6_seeFound_11 ?_
      refine z_ald (pc := 14) hc 1 rfl dX6_seeFound_14 ?_
      refine fg_X6_32 (pc := 15) hc rfl rfl dX6_seeFound_15 ?_
      refine z_ild (pc := 18) hc 0 rfl dX6_seeFound_18 ?_
      refine z_iald (pc := 19) hc rfl rfl rfl (by decide) (by omega) dX6_seeFound_19 ?_
      rw [e46]
      refine z_iconst (pc := 20) hc 1 dX6_seeFound_20 ?_
      refine z_zast (pc := 21) (v := zbz true) hc (zbz_nar true) rfl rfl rfl (by decide) (by omega) dX6_seeFound_21 ?_
      refine z_iinc (pc := 22) (lv' := [(1, zI (((i2 : Nat) : Int) + 1)), (0, zR 38)]) hc 0 rfl rfl (by decide) dX6_seeFound_22 ?_
      refine z_goto (pc := 25) (tgt := 2) hc (by decide) dX6_seeFound_25 ?_
      exact zJW_eq (by rfl) rfl (by rfl) ih2

set_option maxRecDepth 100000 in
set_option maxHeartbeats 4000000 in
theorem ct_X6_isInside (M : Mem) (hZ : zRf (M 39)) (hQ : frQ M)  : zCt yX6_isInside KX6_isInside [zR 38] M (fun zv zM => zv = some (zbz (iiM M (M 38 12).toNat)) ∧ zM = M) := by
  obtain ⟨hs1, hs2, hs3, hs4, hs5, hs6, hs7⟩ := id hZ
  have hw9 := zhw hs1 hs2 hs3 hs4
  obtain ⟨hq1, hq2, hq3⟩ := id hQ
  refine z_met (by decide) rfl (Nat.le_of_ble_eq_true rfl) (fun X hc he => ?_)
  show zJW X 0 [(0, zR 38)] [] M
  refine z_iconst (pc := 0) hc 1 dX6_isInside_0 ?_
  refine z_ist (pc := 1) (lv' := [(1, zI 1), (0, zR 38)]) hc rfl (by decide) dX6_isInside_1 ?_
  refine z_iconst (pc := 2) hc 0 dX6_isInside_2 ?_
  refine z_ist (pc := 3) (lv' := [(2, zI 0), (1, zI 1), (0, zR 38)]) hc rfl (by decide) dX6_isInside_3 ?_
  refine z_for ((M 38 12).toNat) (fun i4 => [(2, zI ((i4 : Nat) : Int)), (1, zI (zbz (iiM M i4))), (0, zR 38)]) (fun i4 => M) (by rfl) (by rfl) ?_ (fun i4 hi4 ih4 => ?_)
  · show zJW X 4 [(2, zI ((((M 38 12).toNat) : Nat) : Int)), (1, zI (zbz (iiM M ((M 38 12).toNat)))), (0, zR 38)] [] M
    refine z_ild (pc := 4) hc 0 rfl dX6_isInside_4 ?_
    refine z_ald (pc := 5) hc 2 rfl dX6_isInside_5 ?_
    refine fg_X6_129 (pc := 6) hc rfl rfl dX6_isInside_6 ?_
    refine z_cge (pc := 9) (tgt := 84) hc (by omega) (by decide) dX6_isInside_9 (fun h9 => ?_) (fun h9 => ?_)
    · show zJW X 84 [(2, zI ((((M 38 12).toNat) : Nat) : Int)), (1, zI (zbz (iiM M ((M 38 12).toNat)))), (0, zR 38)] [] M
      refine z_ild (pc := 84) hc 1 rfl dX6_isInside_84 ?_
      exact z_bret (pc := 85) (a := (iiM M ((M 38 12).toNat))) hc he rfl dX6_isInside_85 (⟨rfl, rfl⟩)
    · exfalso; omega
  · show zJW X 4 [(2, zI ((i4 : Nat) : Int)), (1, zI (zbz (iiM M i4))), (0, zR 38)] [] M
    have h46 := hq3 ((i4 : Nat) : Int) (by omega) (by omega)
    have kx := zkx (h := M 39 0) (w := M 39 1) h46 (by omega)
    refine z_ild (pc := 4) hc 0 rfl dX6_isInside_4 ?_
    refine z_ald (pc := 5) hc 2 rfl dX6_isInside_5 ?_
    refine fg_X6_129 (pc := 6) hc rfl rfl dX6_isInside_6 ?_
    refine z_cge (pc := 9) (tgt := 84) hc (by omega) (by decide) dX6_isInside_9 (fun h9 => ?_) (fun h9 => ?_)
    · exfalso; omega
    · show zJW X 12 [(2, zI ((i4 : Nat) : Int)), (1, zI (zbz (iiM M i4))), (0, zR 38)] [] M
      refine z_ild (pc := 12) hc 1 rfl dX6_isInside_12 ?_
      refine z_beq (pc := 13) (tgt := 76) hc (by decide) dX6_isInside_13 (fun h13 => ?_) (fun h13 => ?_)
      · show zJW X 76 [(2, zI ((i4 : Nat) : Int)), (1, zI (zbz (iiM M i4))), (0, zR 38)] [] M
        refine z_iconst (pc := 76) hc 0 dX6_isInside_76 ?_
        refine z_ist (pc := 77) (lv' := [(1, zI 0), (2, zI ((i4 : Nat) : Int)), (0, zR 38)]) hc rfl (by decide) dX6_isInside_77 ?_
        refine z_iinc (pc := 78) (lv' := [(2, zI (((i4 : Nat) : Int) + 1)), (1, zI 0), (0, zR 38)]) hc 1 rfl rfl (by decide) dX6_isInside_78 ?_
        refine z_goto (pc := 81) (tgt := 4) hc (by decide) dX6_isInside_81 ?_
        exact zJW_eq (by (have hs : iiM M (i4 + 1) = (iiM M i4 && !zbEd (tsZ (M 39)) (M 46 ((i4 : Nat) : Int) / M 39 1) (M 46 ((i4 : Nat) : Int) % M 39 1)) := rfl); first | (rw [hs, h13]; rfl) | (rw [hs, h13, zbEd_no ⟨kx.1, kx.2.1⟩ ⟨kx.2.2.1, kx.2.2.2.1⟩ (of_decide_eq_true h41) (of_decide_eq_true h69)]; rfl) | (rw [hs, h13, zbEd_y ⟨kx.1, kx.2.1⟩ ⟨kx.2.2.1, kx.2.2.2.1⟩ (Or.inr (of_decide_eq_false h69))]; rfl) | (rw [hs, h13, zbEd_y ⟨kx.1, kx.2.1⟩ ⟨kx.2.2.1, kx.2.2.2.1⟩ (Or.inl (of_decide_eq_false h41))]; rfl)) rfl (by rfl) ih4
      · show zJW X 16 [(2, zI ((i4 : Nat) : Int)), (1, zI (zbz (iiM M i4))), (0, zR 38)] [] M
        refine z_ald (pc := 16) hc 2 rfl dX6_isInside_16 ?_
        refine fg_X6_32 (pc := 17) hc rfl rfl dX6_isInside_17 ?_
        refine z_ild (pc := 20) hc 0 rfl dX6_isInside_20 ?_
        refine z_iald (pc := 21) hc rfl rfl rfl (by decide) (by omega) dX6_isInside_21 ?_
        refine z_ald (pc := 22) hc 2 rfl dX6_isInside_22 ?_
        refine fg_X6_7 (pc := 23) hc rfl rfl dX6_isInside_23 ?_
        refine z_iconst (pc := 26) hc 1 dX6_isInside_26 ?_
        refine z_iald (pc := 27) hc rfl rfl rfl (by decide) (by omega) dX6_isInside_27 ?_
        refine z_idiv (pc := 28) hc (by omega) dX6_isInside_28 ?_
        refine z_iconst (pc := 29) hc 1 dX6_isInside_29 ?_
        refine z_ald (pc := 30) hc 2 rfl dX6_isInside_30 ?_
        refine fg_X6_7 (pc := 31) hc rfl rfl dX6_isInside_31 ?_
        refine z_iconst (pc := 34) hc 0 dX6_isInside_34 ?_
        refine z_iald (pc := 35) hc rfl rfl rfl (by decide) (by omega) dX6_isInside_35 ?_
        refine z_iconst (pc := 36) hc 2 dX6_isInside_36 ?_
        refine z_isub (pc := 37) hc dX6_isInside_37 ?_
        refine kc_X6_61 (pc := 38) hc rfl (zfit0 (by decide) rfl rfl) (Nat.le_of_ble_eq_true rfl) (ct_X6_in M ((M 46 ((i4 : Nat) : Int)) / (M 39 1)) 1 ((M 39 0) - 2) (by omega) (by omega) (by omega)) dX6_isInside_38 ?_
        refine z_beq (pc := 41) (tgt := 76) hc (by decide) dX6_isInside_41 (fun h41 => ?_) (fun h41 => ?_)
        · show zJW X 76 [(2, zI ((i4 : Nat) : Int)), (1, zI (zbz (iiM M i4))), (0, zR 38)] [] M
          refine z_iconst (pc := 76) hc 0 dX6_isInside_76 ?_
          refine z_ist (pc := 77) (lv' := [(1, zI 0), (2, zI ((i4 : Nat) : Int)), (0, zR 38)]) hc rfl (by decide) dX6_isInside_77 ?_
          refine z_iinc (pc := 78) (lv' := [(2, zI (((i4 : Nat) : Int) + 1)), (1, zI 0), (0, zR 38)]) hc 1 rfl rfl (by decide) dX6_isInside_78 ?_
          refine z_goto (pc := 81) (tgt := 4) hc (by decide) dX6_isInside_81 ?_
          exact zJW_eq (by (have hs : iiM M (i4 + 1) = (iiM M i4 && !zbEd (tsZ (M 39)) (M 46 ((i4 : Nat) : Int) / M 39 1) (M 46 ((i4 : Nat) : Int) % M 39 1)) := rfl); first | (rw [hs, h13]; rfl) | (rw [hs, h13, zbEd_no ⟨kx.1, kx.2.1⟩ ⟨kx.2.2.1, kx.2.2.2.1⟩ (of_decide_eq_true h41) (of_decide_eq_true h69)]; rfl) | (rw [hs, h13, zbEd_y ⟨kx.1, kx.2.1⟩ ⟨kx.2.2.1, kx.2.2.2.1⟩ (Or.inr (of_decide_eq_false h69))]; rfl) | (rw [hs, h13, zbEd_y ⟨kx.1, kx.2.1⟩ ⟨kx.2.2.1, kx.2.2.2.1⟩ (Or.inl (of_decide_eq_false h41))]; rfl)) rfl (by rfl) ih4
        · show zJW X 44 [(2, zI ((i4 : Nat) : Int)), (1, zI (zbz (iiM M i4))), (0, zR 38)] [] M
          refine z_ald (pc := 44) hc 2 rfl dX6_isInside_44 ?_
          refine fg_X6_32 (pc := 45) hc rfl rfl dX6_isInside_45 ?_
          refine z_ild (pc := 48) hc 0 rfl dX6_isInside_48 ?_
          refine z_iald (pc := 49) hc rfl rfl rfl (by decide) (by omega) dX6_isInside_49 ?_
          refine z_ald (pc := 50) hc 2 rfl dX6_isInside_50 ?_
          refine fg_X6_7 (pc := 51) hc rfl rfl dX6_isInside_51 ?_
          refine z_iconst (pc := 54) hc 1 dX6_isInside_54 ?_
          refine z_iald (pc := 55) hc rfl rfl rfl (by decide) (by omega) dX6_isInside_55 ?_
          refine z_irem (pc := 56) hc (by omega) dX6_isInside_56 ?_
          refine z_iconst (pc := 57) hc 1 dX6_isInside_57 ?_
          refine z_ald (pc := 58) hc 2 rfl dX6_isInside_58 ?_
          refine fg_X6_7 (pc := 59) hc rfl rfl dX6_isInside_59 ?_
          refine z_iconst (pc := 62) hc 1 dX6_isInside_62 ?_
          refine z_iald (pc := 63) hc rfl rfl rfl (by decide) (by omega) dX6_isInside_63 ?_
          refine z_iconst (pc := 64) hc 2 dX6_isInside_64 ?_
          refine z_isub (pc := 65) hc dX6_isInside_65 ?_
          refine kc_X6_61 (pc := 66) hc rfl (zfit0 (by decide) rfl rfl) (Nat.le_of_ble_eq_true rfl) (ct_X6_in M ((M 46 ((i4 : Nat) : Int)) % (M 39 1)) 1 ((M 39 1) - 2) (by omega) (by omega) (by omega)) dX6_isInside_66 ?_
          refine z_beq (pc := 69) (tgt := 76) hc (by decide) dX6_isInside_69 (fun h69 => ?_) (fun h69 => ?_)
          · show zJW X 76 [(2, zI ((i4 : Nat) : Int)), (1, zI (zbz (iiM M i4))), (0, zR 38)] [] M
            refine z_iconst (pc := 76) hc 0 dX6_isInside_76 ?_
            refine z_ist (pc := 77) (lv' := [(1, zI 0), (2, zI ((i4 : Nat) : Int)), (0, zR 38)]) hc rfl (by decide) dX6_isInside_77 ?_
            refine z_iinc (pc := 78) (lv' := [(2, zI (((i4 : Nat) : Int) + 1)), (1, zI 0), (0, zR 38)]) hc 1 rfl rfl (by decide) dX6_isInside_78 ?_
            refine z_goto (pc := 81) (tgt := 4) hc (by decide) dX6_isInside_81 ?_
            exact zJW_eq (by (have hs : iiM M (i4 + 1) = (iiM M i4 && !zbEd (tsZ (M 39)) (M 46 ((i4 : Nat) : Int) / M 39 1) (M 46 ((i4 : Nat) : Int) % M 39 1)) := rfl); first | (rw [hs, h13]; rfl) | (rw [hs, h13, zbEd_no ⟨kx.1, kx.2.1⟩ ⟨kx.2.2.1, kx.2.2.2.1⟩ (of_decide_eq_true h41) (of_decide_eq_true h69)]; rfl) | (rw [hs, h13, zbEd_y ⟨kx.1, kx.2.1⟩ ⟨kx.2.2.1, kx.2.2.2.1⟩ (Or.inr (of_decide_eq_false h69))]; rfl) | (rw [hs, h13, zbEd_y ⟨kx.1, kx.2.1⟩ ⟨kx.2.2.1, kx.2.2.2.1⟩ (Or.inl (of_decide_eq_false h41))]; rfl)) rfl (by rfl) ih4
          · show zJW X 72 [(2, zI ((i4 : Nat) : Int)), (1, zI (zbz (iiM M i4))), (0, zR 38)] [] M
            refine z_iconst (pc := 72) hc 1 dX6_isInside_72 ?_
            refine z_goto (pc := 73) (tgt := 77) hc (by decide) dX6_isInside_73 ?_
            refine z_ist (pc := 77) (lv' := [(1, zI 1), (2, zI ((i4 : Nat) : Int)), (0, zR 38)]) hc rfl (by decide) dX6_isInside_77 ?_
            refine z_iinc (pc := 78) (lv' := [(2, zI (((i4 : Nat) : Int) + 1)), (1, zI 1), (0, zR 38)]) hc 1 rfl rfl (by decide) dX6_isInside_78 ?_
            refine z_goto (pc := 81) (tgt := 4) hc (by decide) dX6_isInside_81 ?_
            exact zJW_eq (by (have hs : iiM M (i4 + 1) = (iiM M i4 && !zbEd (tsZ (M 39)) (M 46 ((i4 : Nat) : Int) / M 39 1) (M 46 ((i4 : Nat) : Int) % M 39 1)) := rfl); first | (rw [hs, h13]; rfl) | (rw [hs, h13, zbEd_no ⟨kx.1, kx.2.1⟩ ⟨kx.2.2.1, kx.2.2.2.1⟩ (of_decide_eq_true h41) (of_decide_eq_true h69)]; rfl) | (rw [hs, h13, zbEd_y ⟨kx.1, kx.2.1⟩ ⟨kx.2.2.1, kx.2.2.2.1⟩ (Or.inr (of_decide_eq_false h69))]; rfl) | (rw [hs, h13, zbEd_y ⟨kx.1, kx.2.1⟩ ⟨kx.2.2.1, kx.2.2.2.1⟩ (Or.inl (of_decide_eq_false h41))]; rfl)) rfl (by rfl) ih4

set_option maxRecDepth 100000 in
set_option maxHeartbeats 4000000 in
theorem ct_X6_region (M : Mem) (hZ : zRf (M 39)) (r : Int) (hb_r : -2147483648 ≤ r ∧ r < 2147483648) (c : Int) (hb_c : -2147483648 ≤ c ∧ c < 2147483648) (b : Bool)  : zCt yX6_region KX6_region [zR 38, zI r, zI c, zI (zbz b)] M (fun zv zM => zv = some (if inT (tsZ (M 39)) r c = true then frM M (M 39 1 * r + c) (decide (M 39 (3 + (M 39 1 * r + c)) = 1)) (if b then 1 else 2) 144 38 12 else -1) ∧ zM = (if inT (tsZ (M 39)) r c = true then frM M (M 39 1 * r + c) (decide (M 39 (3 + (M 39 1 * r + c)) = 1)) (if b then 1 else 2) 144 else M)) := by
  obtain ⟨hs1, hs2, hs3, hs4, hs5, hs6, hs7⟩ := id hZ
  have hw9 := zhw hs1 hs2 hs3 hs4
  refine z_met (by decide) rfl (Nat.le_of_ble_eq_true rfl) (fun X hc he => ?_)
  show zJW X 0 [(0, zR 38), (1, zI r), (2, zI c), (3, zI (zbz b))] [] M
  refine z_ald (pc := 0) hc 0 rfl dX6_region_0 ?_
  refine z_ild (pc := 1) hc 1 rfl dX6_region_1 ?_
  refine z_ild (pc := 2) hc 2 rfl dX6_region_2 ?_
  refine kc_X6_90 (pc := 3) hc rfl (zfitX (by decide) rfl rfl) rfl (Nat.le_of_ble_eq_true rfl) (ct_X6_isTile M (by assumption) r (by omega) c (by omega)) dX6_region_3 ?_
  refine z_bne (pc := 6) (tgt := 11) hc (by decide) dX6_region_6 (fun h6 => ?_) (fun h6 => ?_)
  · show zJW X 11 [(0, zR 38), (1, zI r), (2, zI c), (3, zI (zbz b))] [] M
    have h6' := h6
    rw [inT_Z] at h6'
    have h6' := of_decide_eq_true h6'
    have ix6 := zix (h := M 39 0) (w := M 39 1) ⟨h6'.1, h6'.2.1⟩ ⟨h6'.2.2.1, h6'.2.2.2⟩
    have ixk6 : 0 ≤ M 39 1 * r + c ∧ M 39 1 * r + c < M 39 0 * M 39 1 := ⟨ix6.1, ix6.2.1⟩
    refine z_ald (pc := 11) hc 0 rfl dX6_region_11 ?_
    refine z_ald (pc := 12) hc 0 rfl dX6_region_12 ?_
    refine z_ild (pc := 13) hc 1 rfl dX6_region_13 ?_
    refine z_ild (pc := 14) hc 2 rfl dX6_region_14 ?_
    refine kc_X6_94 (pc := 15) hc rfl (zfitX (by decide) rfl rfl) rfl (Nat.le_of_ble_eq_true rfl) (ct_X6_at M r c) dX6_region_15 ?_
    refine z_ild (pc := 18) hc 3 rfl dX6_region_18 ?_
    refine kc_X6_132 (pc := 19) hc rfl (zfitX (by decide) rfl rfl) rfl (Nat.le_of_ble_eq_true rfl) (ct_X6_fr M (by assumption) (M 39 1 * r + c) (by first | assumption | omega) b) dX6_region_19 ?_
    refine z_ald (pc := 22) hc 0 rfl dX6_region_22 ?_
    refine fg_X6_129 (pc := 23) hc rfl rfl dX6_region_23 ?_
    exact z_iret (pc := 26) hc he rfl dX6_region_26 (⟨by rw [if_pos h6], by rw [if_pos h6]⟩)
  · show zJW X 9 [(0, zR 38), (1, zI r), (2, zI c), (3, zI (zbz b))] [] M
    refine z_iconst (pc := 9) hc (-1) dX6_region_9 ?_
    exact z_iret (pc := 10) hc he rfl dX6_region_10 (⟨by rw [h6]; rfl, by rw [h6]; rfl⟩)

set_option maxRecDepth 100000 in
set_option maxHeartbeats 4000000 in
theorem ct_X6_way (M : Mem) (hZ : zRf (M 39)) (r : Int) (hb_r : -2147483648 ≤ r ∧ r < 2147483648) (c : Int) (hb_c : -2147483648 ≤ c ∧ c < 2147483648) (p : Int) (hb_p : -2147483648 ≤ p ∧ p < 2147483648) (q : Int) (hb_q : -2147483648 ≤ q ∧ q < 2147483648)  : zCt yX6_way KX6_way [zR 38, zI r, zI c, zI p, zI q] M (fun zv zM => zv = some (if inT (tsZ (M 39)) r c = true ∧ inT (tsZ (M 39)) p q = true then (frM M (M 39 1 * r + c) (decide (M 39 (3 + (M 39 1 * r + c)) = 1)) 2 144) 47 (M 39 1 * p + q) else -1) ∧ zM = (if inT (tsZ (M 39)) r c = true ∧ inT (tsZ (M 39)) p q = true then (frM M (M 39 1 * r + c) (decide (M 39 (3 + (M 39 1 * r + c)) = 1)) 2 144) else M)) := by
  obtain ⟨hs1, hs2, hs3, hs4, hs5, hs6, hs7⟩ := id hZ
  have hw9 := zhw hs1 hs2 hs3 hs4
  refine z_met (by decide) rfl (Nat.le_of_ble_eq_true rfl) (fun X hc he => ?_)
  show zJW X 0 [(0, zR 38), (1, zI r), (2, zI c), (3, zI p), (4, zI q)] [] M
  refine z_ald (pc := 0) hc 0 rfl dX6_way_0 ?_
  refine z_ild (pc := 1) hc 1 rfl dX6_way_1 ?_
  refine z_ild (pc := 2) hc 2 rfl dX6_way_2 ?_
  refine kc_X6_90 (pc := 3) hc rfl (zfitX (by decide) rfl rfl) rfl (Nat.le_of_ble_eq_true rfl) (ct_X6_isTile M (by assumption) r (by omega) c (by omega)) dX6_way_3 ?_
  refine z_beq (pc := 6) (tgt := 19) hc (by decide) dX6_way_6 (fun h6 => ?_) (fun h6 => ?_)
  · show zJW X 19 [(0, zR 38), (1, zI r), (2, zI c), (3, zI p), (4, zI q)] [] M
    refine z_iconst (pc := 19) hc (-1) dX6_way_19 ?_
    exact z_iret (pc := 20) hc he rfl dX6_way_20 (by first | exact ⟨by rw [if_neg (fun h => by rw [h6] at h; exact absurd h.1 (by decide))], by rw [if_neg (fun h => by rw [h6] at h; exact absurd h.1 (by decide))]⟩ | exact ⟨by rw [if_neg (fun h => by rw [h16] at h; exact absurd h.2 (by decide))], by rw [if_neg (fun h => by rw [h16] at h; exact absurd h.2 (by decide))]⟩)
  · show zJW X 9 [(0, zR 38), (1, zI r), (2, zI c), (3, zI p), (4, zI q)] [] M
    refine z_ald (pc := 9) hc 0 rfl dX6_way_9 ?_
    refine z_ild (pc := 10) hc 3 rfl dX6_way_10 ?_
    refine z_ilw (pc := 11) hc 4 rfl dX6_way_11 ?_
    refine kc_X6_90 (pc := 13) hc rfl (zfitX (by decide) rfl rfl) rfl (Nat.le_of_ble_eq_true rfl) (ct_X6_isTile M (by assumption) p (by omega) q (by omega)) dX6_way_13 ?_
    refine z_bne (pc := 16) (tgt := 21) hc (by decide) dX6_way_16 (fun h16 => ?_) (fun h16 => ?_)
    · show zJW X 21 [(0, zR 38), (1, zI r), (2, zI c), (3, zI p), (4, zI q)] [] M
      have h6' := h6
      rw [inT_Z] at h6'
      have h6' := of_decide_eq_true h6'
      have ix6 := zix (h := M 39 0) (w := M 39 1) ⟨h6'.1, h6'.2.1⟩ ⟨h6'.2.2.1, h6'.2.2.2⟩
      have ixk6 : 0 ≤ M 39 1 * r + c ∧ M 39 1 * r + c < M 39 0 * M 39 1 := ⟨ix6.1, ix6.2.1⟩
      have h16' := h16
      rw [inT_Z] at h16'
      have h16' := of_decide_eq_true h16'
      have ix16 := zix (h := M 39 0) (w := M 39 1) ⟨h16'.1, h16'.2.1⟩ ⟨h16'.2.2.1, h16'.2.2.2⟩
      have ixk16 : 0 ≤ M 39 1 * p + q ∧ M 39 1 * p + q < M 39 0 * M 39 1 := ⟨ix16.1, ix16.2.1⟩
      have hf := frM_ok (e := 2) hZ ixk6 rfl
      refine z_ald (pc := 21) hc 0 rfl dX6_way_21 ?_
      refine z_ald (pc := 22) hc 0 rfl dX6_way_22 ?_
      refine z_ild (pc := 23) hc 1 rfl dX6_way_23 ?_
      refine z_ild (pc := 24) hc 2 rfl dX6_way_24 ?_
      refine kc_X6_94 (pc := 25) hc rfl (zfitX (by decide) rfl rfl) rfl (Nat.le_of_ble_eq_true rfl) (ct_X6_at M r c) dX6_way_25 ?_
      refine z_iconst (pc := 28) hc 0 dX6_way_28 ?_
      refine kc_X6_132 (pc := 29) hc rfl (zfitX (by decide) rfl rfl) rfl (Nat.le_of_ble_eq_true rfl) (ct_X6_frf M (by assumption) (M 39 1 * r + c) (by first | assumption | omega)) dX6_way_29 ?_
      refine z_ald (pc := 32) hc 0 rfl dX6_way_32 ?_
      refine fg_X6_35 (pc := 33) hc rfl rfl dX6_way_33 ?_
      refine z_ald (pc := 36) hc 0 rfl dX6_way_36 ?_
      refine z_ild (pc := 37) hc 3 rfl dX6_way_37 ?_
      refine z_ilw (pc := 38) hc 4 rfl dX6_way_38 ?_
      refine kc_X6_94 (pc := 40) hc rfl (zfitX (by decide) rfl rfl) rfl (Nat.le_of_ble_eq_true rfl) (ct_X6_at (frM M (M 39 1 * r + c) (decide (M 39 (3 + (M 39 1 * r + c)) = 1)) 2 144) p q) dX6_way_40 ?_
      rw [srI_39 hf]
      refine z_iald (pc := 43) hc rfl rfl rfl (by decide) (by omega) dX6_way_43 ?_
      exact z_iret (pc := 44) hc he rfl dX6_way_44 (by have hpq := (show inT (tsZ (M 39)) r c = true ∧ inT (tsZ (M 39)) p q = true from ⟨h6, h16⟩); rw [if_pos hpq, if_pos hpq]; exact ⟨rfl, rfl⟩)
    · show zJW X 19 [(0, zR 38), (1, zI r), (2, zI c), (3, zI p), (4, zI q)] [] M
      refine z_iconst (pc := 19) hc (-1) dX6_way_19 ?_
      exact z_iret (pc := 20) hc he rfl dX6_way_20 (by first | exact ⟨by rw [if_neg (fun h => by rw [h6] at h; exact absurd h.1 (by decide))], by rw [if_neg (fun h => by rw [h6] at h; exact absurd h.1 (by decide))]⟩ | exact ⟨by rw [if_neg (fun h => by rw [h16] at h; exact absurd h.2 (by decide))], by rw [if_neg (fun h => by rw [h16] at h; exact absurd h.2 (by decide))]⟩)

set_option maxRecDepth 100000 in
set_option maxHeartbeats 4000000 in
theorem ct_X6_islands (M : Mem) (hZ : zRf (M 39))  : zCt yX6_islands KX6_islands [zR 38] M (fun zv zM => zv = some ((zrep (rgR true 1 gIs) (M 39 0 * M 39 1).toNat (snM M, ((0 : Int), (0 : Int)))).2.1) ∧ zM = (zrep (rgR true 1 gIs) (M 39 0 * M 39 1).toNat (snM M, ((0 : Int), (0 : Int)))).1) := by
  obtain ⟨hs1, hs2, hs3, hs4, hs5, hs6, hs7⟩ := id hZ
  have hw9 := zhw hs1 hs2 hs3 hs4
  have hsn39 : snM M 39 = M 39 := snM_off (by decide)
  have hZs : zRf (snM M 39) := by rw [hsn39]; exact hZ
  refine z_met (by decide) rfl (Nat.le_of_ble_eq_true rfl) (fun X hc he => ?_)
  show zJW X 0 [(0, zR 38)] [] M
  refine z_ald (pc := 0) hc 0 rfl dX6_islands_0 ?_
  refine kc_X6_163 (pc := 1) hc rfl (zfitX (by decide) rfl rfl) rfl (Nat.le_of_ble_eq_true rfl) (ct_X6_seeNone M) dX6_islands_1 ?_
  refine z_iconst (pc := 4) hc 0 dX6_islands_4 ?_
  refine z_ist (pc := 5) (lv' := [(1, zI 0), (0, zR 38)]) hc rfl (by decide) dX6_islands_5 ?_
  refine z_iconst (pc := 6) hc 0 dX6_islands_6 ?_
  refine z_ist (pc := 7) (lv' := [(2, zI 0), (1, zI 0), (0, zR 38)]) hc rfl (by decide) dX6_islands_7 ?_
  refine z_for ((M 39 0 * M 39 1).toNat) (fun i8 => [(2, zI ((i8 : Nat) : Int)), (1, zI ((zrep (rgR true 1 gIs) i8 (snM M, ((0 : Int), (0 : Int)))).2.1)), (0, zR 38)]) (fun i8 => (zrep (rgR true 1 gIs) i8 (snM M, ((0 : Int), (0 : Int)))).1) (by rfl) (by rfl) ?_ (fun i8 hi8 ih8 => ?_)
  · show zJW X 8 [(2, zI ((((M 39 0 * M 39 1).toNat) : Nat) : Int)), (1, zI ((zrep (rgR true 1 gIs) ((M 39 0 * M 39 1).toNat) (snM M, ((0 : Int), (0 : Int)))).2.1)), (0, zR 38)] [] ((zrep (rgR true 1 gIs) ((M 39 0 * M 39 1).toNat) (snM M, ((0 : Int), (0 : Int)))).1)
    have hx := rgRs_P (l := true) (e := 1) (g := gIs) (q := (snM M, ((0 : Int), (0 : Int)))) hZs snM_P (n := (M 39 0 * M 39 1).toNat) (by rw [hsn39]; omega)
    have hx9 : (zrep (rgR true 1 gIs) (M 39 0 * M 39 1).toNat (snM M, ((0 : Int), (0 : Int)))).1 39 = M 39 := (srP_39 hx).trans hsn39
    have hxp : (zrep (rgR true 1 gIs) (M 39 0 * M 39 1).toNat (snM M, ((0 : Int), (0 : Int)))).1 39 0 * (zrep (rgR true 1 gIs) (M 39 0 * M 39 1).toNat (snM M, ((0 : Int), (0 : Int)))).1 39 1 = M 39 0 * M 39 1 := by rw [hx9]
    have hx0 := congrFun hx9 0
    have hx1 := congrFun hx9 1
    refine z_ild (pc := 8) hc 0 rfl dX6_islands_8 ?_
    refine z_ald (pc := 9) hc 2 rfl dX6_islands_9 ?_
    refine kc_X6_116 (pc := 10) hc rfl (zfitX (by decide) rfl rfl) rfl (Nat.le_of_ble_eq_true rfl) (ct_X6_tiles ((zrep (rgR true 1 gIs) ((M 39 0 * M 39 1).toNat) (snM M, ((0 : Int), (0 : Int)))).1)) dX6_islands_10 ?_
    refine z_cge (pc := 13) (tgt := 52) hc (by omega) (by decide) dX6_islands_13 (fun h13 => ?_) (fun h13 => ?_)
    · show zJW X 52 [(2, zI ((((M 39 0 * M 39 1).toNat) : Nat) : Int)), (1, zI ((zrep (rgR true 1 gIs) ((M 39 0 * M 39 1).toNat) (snM M, ((0 : Int), (0 : Int)))).2.1)), (0, zR 38)] [] ((zrep (rgR true 1 gIs) ((M 39 0 * M 39 1).toNat) (snM M, ((0 : Int), (0 : Int)))).1)
      refine z_ild (pc := 52) hc 1 rfl dX6_islands_52 ?_
      exact z_iret (pc := 53) hc he rfl dX6_islands_53 (⟨rfl, rfl⟩)
    · exfalso; omega
  · show zJW X 8 [(2, zI ((i8 : Nat) : Int)), (1, zI ((zrep (rgR true 1 gIs) i8 (snM M, ((0 : Int), (0 : Int)))).2.1)), (0, zR 38)] [] ((zrep (rgR true 1 gIs) i8 (snM M, ((0 : Int), (0 : Int)))).1)
    have hi := rgRs_P (l := true) (e := 1) (g := gIs) (q := (snM M, ((0 : Int), (0 : Int)))) hZs snM_P (n := i8) (by rw [hsn39]; omega)
    have hi9 : (zrep (rgR true 1 gIs) i8 (snM M, ((0 : Int), (0 : Int)))).1 39 = M 39 := (srP_39 hi).trans hsn39
    have hip : (zrep (rgR true 1 gIs) i8 (snM M, ((0 : Int), (0 : Int)))).1 39 0 * (zrep (rgR true 1 gIs) i8 (snM M, ((0 : Int), (0 : Int)))).1 39 1 = M 39 0 * M 39 1 := by rw [hi9]
    have hi0 := congrFun hi9 0
    have hi1 := congrFun hi9 1
    have hiZ : zRf ((zrep (rgR true 1 gIs) i8 (snM M, ((0 : Int), (0 : Int)))).1 39) := by rw [hi9]; exact hZ
    have hik : 0 ≤ ((i8 : Nat) : Int) ∧ ((i8 : Nat) : Int) < (zrep (rgR true 1 gIs) i8 (snM M, ((0 : Int), (0 : Int)))).1 39 0 * (zrep (rgR true 1 gIs) i8 (snM M, ((0 : Int), (0 : Int)))).1 39 1 := by rw [hip]; omega
    have hi51 := hi.2.2 ((i8 : Nat) : Int) (by omega) (by omega)
    refine z_ild (pc := 8) hc 0 rfl dX6_islands_8 ?_
    refine z_ald (pc := 9) hc 2 rfl dX6_islands_9 ?_
    refine kc_X6_116 (pc := 10) hc rfl (zfitX (by decide) rfl rfl) rfl (Nat.le_of_ble_eq_true rfl) (ct_X6_tiles ((zrep (rgR true 1 gIs) i8 (snM M, ((0 : Int), (0 : Int)))).1)) dX6_islands_10 ?_
    refine z_cge (pc := 13) (tgt := 52) hc (by omega) (by decide) dX6_islands_13 (fun h13 => ?_) (fun h13 => ?_)
    · exfalso; omega
    · show zJW X 16 [(2, zI ((i8 : Nat) : Int)), (1, zI ((zrep (rgR true 1 gIs) i8 (snM M, ((0 : Int), (0 : Int)))).2.1)), (0, zR 38)] [] ((zrep (rgR true 1 gIs) i8 (snM M, ((0 : Int), (0 : Int)))).1)
      refine z_ald (pc := 16) hc 2 rfl dX6_islands_16 ?_
      refine z_ild (pc := 17) hc 0 rfl dX6_islands_17 ?_
      refine kc_X6_97 (pc := 18) hc rfl (zfitX (by decide) rfl rfl) rfl (Nat.le_of_ble_eq_true rfl) (ct_X6_isLandAt ((zrep (rgR true 1 gIs) i8 (snM M, ((0 : Int), (0 : Int)))).1) (by assumption) ((i8 : Nat) : Int) (by omega)) dX6_islands_18 ?_
      refine z_beq (pc := 21) (tgt := 46) hc (by decide) dX6_islands_21 (fun h21 => ?_) (fun h21 => ?_)
      · show zJW X 46 [(2, zI ((i8 : Nat) : Int)), (1, zI ((zrep (rgR true 1 gIs) i8 (snM M, ((0 : Int), (0 : Int)))).2.1)), (0, zR 38)] [] ((zrep (rgR true 1 gIs) i8 (snM M, ((0 : Int), (0 : Int)))).1)
        refine z_iinc (pc := 46) (lv' := [(2, zI (((i8 : Nat) : Int) + 1)), (1, zI ((zrep (rgR true 1 gIs) i8 (snM M, ((0 : Int), (0 : Int)))).2.1)), (0, zR 38)]) hc 0 rfl rfl (by decide) dX6_islands_46 ?_
        refine z_goto (pc := 49) (tgt := 8) hc (by decide) dX6_islands_49 ?_
        exact zJW_eq (by rw [zrep_succ]; first | (rw [rgR_n1 h21]; rfl) | (rw [rgR_n2 h30]; rfl) | (rw [rgR_y h21 h30]; rfl)) rfl (by rw [zrep_succ]; first | (rw [rgR_n1 h21]; done) | (rw [rgR_n2 h30]; done) | (rw [rgR_y h21 h30]; done)) ih8
      · show zJW X 24 [(2, zI ((i8 : Nat) : Int)), (1, zI ((zrep (rgR true 1 gIs) i8 (snM M, ((0 : Int), (0 : Int)))).2.1)), (0, zR 38)] [] ((zrep (rgR true 1 gIs) i8 (snM M, ((0 : Int), (0 : Int)))).1)
        refine z_ald (pc := 24) hc 2 rfl dX6_islands_24 ?_
        refine fg_X6_47 (pc := 25) hc rfl rfl dX6_islands_25 ?_
        refine z_ild (pc := 28) hc 0 rfl dX6_islands_28 ?_
        refine z_zald (pc := 29) hc rfl rfl rfl (by decide) (by omega) dX6_islands_29 ?_
        refine z_ine (pc := 30) (tgt := 46) hc (by omega) (by decide) dX6_islands_30 (fun h30 => ?_) (fun h30 => ?_)
        · show zJW X 46 [(2, zI ((i8 : Nat) : Int)), (1, zI ((zrep (rgR true 1 gIs) i8 (snM M, ((0 : Int), (0 : Int)))).2.1)), (0, zR 38)] [] ((zrep (rgR true 1 gIs) i8 (snM M, ((0 : Int), (0 : Int)))).1)
          refine z_iinc (pc := 46) (lv' := [(2, zI (((i8 : Nat) : Int) + 1)), (1, zI ((zrep (rgR true 1 gIs) i8 (snM M, ((0 : Int), (0 : Int)))).2.1)), (0, zR 38)]) hc 0 rfl rfl (by decide) dX6_islands_46 ?_
          refine z_goto (pc := 49) (tgt := 8) hc (by decide) dX6_islands_49 ?_
          exact zJW_eq (by rw [zrep_succ]; first | (rw [rgR_n1 h21]; rfl) | (rw [rgR_n2 h30]; rfl) | (rw [rgR_y h21 h30]; rfl)) rfl (by rw [zrep_succ]; first | (rw [rgR_n1 h21]; done) | (rw [rgR_n2 h30]; done) | (rw [rgR_y h21 h30]; done)) ih8
        · show zJW X 33 [(2, zI ((i8 : Nat) : Int)), (1, zI ((zrep (rgR true 1 gIs) i8 (snM M, ((0 : Int), (0 : Int)))).2.1)), (0, zR 38)] [] ((zrep (rgR true 1 gIs) i8 (snM M, ((0 : Int), (0 : Int)))).1)
          refine z_ald (pc := 33) hc 2 rfl dX6_islands_33 ?_
          refine z_ild (pc := 34) hc 0 rfl dX6_islands_34 ?_
          refine z_iconst (pc := 35) hc 1 dX6_islands_35 ?_
          refine kc_X6_132 (pc := 36) hc rfl (zfitX (by decide) rfl rfl) rfl (Nat.le_of_ble_eq_true rfl) (ct_X6_frt ((zrep (rgR true 1 gIs) i8 (snM M, ((0 : Int), (0 : Int)))).1) (by assumption) ((i8 : Nat) : Int) (by first | assumption | omega)) dX6_islands_36 ?_
          rw [h21]
          have hf := frM_ok (e := 1) hiZ hik h21
          have hfQ := frQ_of hf
          have hfZ : zRf ((frM (zrep (rgR true 1 gIs) i8 (snM M, ((0 : Int), (0 : Int)))).1 ((i8 : Nat) : Int) true 1 144) 39) := by rw [srI_39 hf]; exact hiZ
          obtain ⟨hfq1, hfq2, -⟩ := id hfQ
          refine z_ald (pc := 39) hc 2 rfl dX6_islands_39 ?_
          refine kc_X6_166 (pc := 40) hc rfl (zfitX (by decide) rfl rfl) rfl (Nat.le_of_ble_eq_true rfl) (ct_X6_seeFound (frM (zrep (rgR true 1 gIs) i8 (snM M, ((0 : Int), (0 : Int)))).1 ((i8 : Nat) : Int) true 1 144) (by assumption) (by assumption) ) dX6_islands_40 ?_
          show zJW X _ _ _ (seR (zrep (rgR true 1 gIs) i8 (snM M, ((0 : Int), (0 : Int)))).1 ((i8 : Nat) : Int) true 1 144)
          have hse := seR_P (e := 1) hZs hi (by rw [hip]; omega) h21
          have hse9 : (seR (zrep (rgR true 1 gIs) i8 (snM M, ((0 : Int), (0 : Int)))).1 ((i8 : Nat) : Int) true 1 144) 39 = M 39 := (srP_39 hse).trans hsn39
          have hsp : (seR (zrep (rgR true 1 gIs) i8 (snM M, ((0 : Int), (0 : Int)))).1 ((i8 : Nat) : Int) true 1 144) 39 0 * (seR (zrep (rgR true 1 gIs) i8 (snM M, ((0 : Int), (0 : Int)))).1 ((i8 : Nat) : Int) true 1 144) 39 1 = M 39 0 * M 39 1 := by rw [hse9]
          have hseZ : zRf ((seR (zrep (rgR true 1 gIs) i8 (snM M, ((0 : Int), (0 : Int)))).1 ((i8 : Nat) : Int) true 1 144) 39) := by rw [hse9]; exact hZ
          have hs38 : (seR (zrep (rgR true 1 gIs) i8 (snM M, ((0 : Int), (0 : Int)))).1 ((i8 : Nat) : Int) true 1 144) 38 = (frM (zrep (rgR true 1 gIs) i8 (snM M, ((0 : Int), (0 : Int)))).1 ((i8 : Nat) : Int) true 1 144) 38 := sfM_off (by decide) _
          have hs46 : (seR (zrep (rgR true 1 gIs) i8 (snM M, ((0 : Int), (0 : Int)))).1 ((i8 : Nat) : Int) true 1 144) 46 = (frM (zrep (rgR true 1 gIs) i8 (snM M, ((0 : Int), (0 : Int)))).1 ((i8 : Nat) : Int) true 1 144) 46 := sfM_off (by decide) _
          have hseQ : frQ (seR (zrep (rgR true 1 gIs) i8 (snM M, ((0 : Int), (0 : Int)))).1 ((i8 : Nat) : Int) true 1 144) := by
            unfold frQ
            rw [hs38, hs46, hse9, ← hi9, ← srI_39 hf]
            exact hfQ
          refine z_iinc (pc := 43) (lv' := [(1, zI ((zrep (rgR true 1 gIs) i8 (snM M, ((0 : Int), (0 : Int)))).2.1 + 1)), (2, zI ((i8 : Nat) : Int)), (0, zR 38)]) hc 1 rfl rfl (by decide) dX6_islands_43 ?_
          refine z_iinc (pc := 46) (lv' := [(2, zI (((i8 : Nat) : Int) + 1)), (1, zI ((zrep (rgR true 1 gIs) i8 (snM M, ((0 : Int), (0 : Int)))).2.1 + 1)), (0, zR 38)]) hc 1 rfl rfl (by decide) dX6_islands_46 ?_
          refine z_goto (pc := 49) (tgt := 8) hc (by decide) dX6_islands_49 ?_
          exact zJW_eq (by rw [zrep_succ]; first | (rw [rgR_n1 h21]; rfl) | (rw [rgR_n2 h30]; rfl) | (rw [rgR_y h21 h30]; rfl)) rfl (by rw [zrep_succ]; first | (rw [rgR_n1 h21]; done) | (rw [rgR_n2 h30]; done) | (rw [rgR_y h21 h30]; done)) ih8

set_option maxRecDepth 100000 in
set_option maxHeartbeats 4000000 in
theorem ct_X6_lakes (M : Mem) (hZ : zRf (M 39))  : zCt yX6_lakes KX6_lakes [zR 38] M (fun zv zM => zv = some ((zrep (rgR false 2 gLk) (M 39 0 * M 39 1).toNat (snM M, ((0 : Int), (0 : Int)))).2.1) ∧ zM = (zrep (rgR false 2 gLk) (M 39 0 * M 39 1).toNat (snM M, ((0 : Int), (0 : Int)))).1) := by
  obtain ⟨hs1, hs2, hs3, hs4, hs5, hs6, hs7⟩ := id hZ
  have hw9 := zhw hs1 hs2 hs3 hs4
  have hsn39 : snM M 39 = M 39 := snM_off (by decide)
  have hZs : zRf (snM M 39) := by rw [hsn39]; exact hZ
  refine z_met (by decide) rfl (Nat.le_of_ble_eq_true rfl) (fun X hc he => ?_)
  show zJW X 0 [(0, zR 38)] [] M
  refine z_ald (pc := 0) hc 0 rfl dX6_lakes_0 ?_
  refine kc_X6_163 (pc := 1) hc rfl (zfitX (by decide) rfl rfl) rfl (Nat.le_of_ble_eq_true rfl) (ct_X6_seeNone M) dX6_lakes_1 ?_
  refine z_iconst (pc := 4) hc 0 dX6_lakes_4 ?_
  refine z_ist (pc := 5) (lv' := [(1, zI 0), (0, zR 38)]) hc rfl (by decide) dX6_lakes_5 ?_
  refine z_iconst (pc := 6) hc 0 dX6_lakes_6 ?_
  refine z_ist (pc := 7) (lv' := [(2, zI 0), (1, zI 0), (0, zR 38)]) hc rfl (by decide) dX6_lakes_7 ?_
  refine z_for ((M 39 0 * M 39 1).toNat) (fun i8 => [(2, zI ((i8 : Nat) : Int)), (1, zI ((zrep (rgR false 2 gLk) i8 (snM M, ((0 : Int), (0 : Int)))).2.1)), (0, zR 38)]) (fun i8 => (zrep (rgR false 2 gLk) i8 (snM M, ((0 : Int), (0 : Int)))).1) (by rfl) (by rfl) ?_ (fun i8 hi8 ih8 => ?_)
  · show zJW X 8 [(2, zI ((((M 39 0 * M 39 1).toNat) : Nat) : Int)), (1, zI ((zrep (rgR false 2 gLk) ((M 39 0 * M 39 1).toNat) (snM M, ((0 : Int), (0 : Int)))).2.1)), (0, zR 38)] [] ((zrep (rgR false 2 gLk) ((M 39 0 * M 39 1).toNat) (snM M, ((0 : Int), (0 : Int)))).1)
    have hx := rgRs_P (l := false) (e := 2) (g := gLk) (q := (snM M, ((0 : Int), (0 : Int)))) hZs snM_P (n := (M 39 0 * M 39 1).toNat) (by rw [hsn39]; omega)
    have hx9 : (zrep (rgR false 2 gLk) (M 39 0 * M 39 1).toNat (snM M, ((0 : Int), (0 : Int)))).1 39 = M 39 := (srP_39 hx).trans hsn39
    have hxp : (zrep (rgR false 2 gLk) (M 39 0 * M 39 1).toNat (snM M, ((0 : Int), (0 : Int)))).1 39 0 * (zrep (rgR false 2 gLk) (M 39 0 * M 39 1).toNat (snM M, ((0 : Int), (0 : Int)))).1 39 1 = M 39 0 * M 39 1 := by rw [hx9]
    have hx0 := congrFun hx9 0
    have hx1 := congrFun hx9 1
    refine z_ild (pc := 8) hc 0 rfl dX6_lakes_8 ?_
    refine z_ald (pc := 9) hc 2 rfl dX6_lakes_9 ?_
    refine kc_X6_116 (pc := 10) hc rfl (zfitX (by decide) rfl rfl) rfl (Nat.le_of_ble_eq_true rfl) (ct_X6_tiles ((zrep (rgR false 2 gLk) ((M 39 0 * M 39 1).toNat) (snM M, ((0 : Int), (0 : Int)))).1)) dX6_lakes_10 ?_
    refine z_cge (pc := 13) (tgt := 64) hc (by omega) (by decide) dX6_lakes_13 (fun h13 => ?_) (fun h13 => ?_)
    · show zJW X 64 [(2, zI ((((M 39 0 * M 39 1).toNat) : Nat) : Int)), (1, zI ((zrep (rgR false 2 gLk) ((M 39 0 * M 39 1).toNat) (snM M, ((0 : Int), (0 : Int)))).2.1)), (0, zR 38)] [] ((zrep (rgR false 2 gLk) ((M 39 0 * M 39 1).toNat) (snM M, ((0 : Int), (0 : Int)))).1)
      refine z_ild (pc := 64) hc 1 rfl dX6_lakes_64 ?_
      exact z_iret (pc := 65) hc he rfl dX6_lakes_65 (⟨rfl, rfl⟩)
    · exfalso; omega
  · show zJW X 8 [(2, zI ((i8 : Nat) : Int)), (1, zI ((zrep (rgR false 2 gLk) i8 (snM M, ((0 : Int), (0 : Int)))).2.1)), (0, zR 38)] [] ((zrep (rgR false 2 gLk) i8 (snM M, ((0 : Int), (0 : Int)))).1)
    have hi := rgRs_P (l := false) (e := 2) (g := gLk) (q := (snM M, ((0 : Int), (0 : Int)))) hZs snM_P (n := i8) (by rw [hsn39]; omega)
    have hi9 : (zrep (rgR false 2 gLk) i8 (snM M, ((0 : Int), (0 : Int)))).1 39 = M 39 := (srP_39 hi).trans hsn39
    have hip : (zrep (rgR false 2 gLk) i8 (snM M, ((0 : Int), (0 : Int)))).1 39 0 * (zrep (rgR false 2 gLk) i8 (snM M, ((0 : Int), (0 : Int)))).1 39 1 = M 39 0 * M 39 1 := by rw [hi9]
    have hi0 := congrFun hi9 0
    have hi1 := congrFun hi9 1
    have hiZ : zRf ((zrep (rgR false 2 gLk) i8 (snM M, ((0 : Int), (0 : Int)))).1 39) := by rw [hi9]; exact hZ
    have hik : 0 ≤ ((i8 : Nat) : Int) ∧ ((i8 : Nat) : Int) < (zrep (rgR false 2 gLk) i8 (snM M, ((0 : Int), (0 : Int)))).1 39 0 * (zrep (rgR false 2 gLk) i8 (snM M, ((0 : Int), (0 : Int)))).1 39 1 := by rw [hip]; omega
    have hi51 := hi.2.2 ((i8 : Nat) : Int) (by omega) (by omega)
    refine z_ild (pc := 8) hc 0 rfl dX6_lakes_8 ?_
    refine z_ald (pc := 9) hc 2 rfl dX6_lakes_9 ?_
    refine kc_X6_116 (pc := 10) hc rfl (zfitX (by decide) rfl rfl) rfl (Nat.le_of_ble_eq_true rfl) (ct_X6_tiles ((zrep (rgR false 2 gLk) i8 (snM M, ((0 : Int), (0 : Int)))).1)) dX6_lakes_10 ?_
    refine z_cge (pc := 13) (tgt := 64) hc (by omega) (by decide) dX6_lakes_13 (fun h13 => ?_) (fun h13 => ?_)
    · exfalso; omega
    · show zJW X 16 [(2, zI ((i8 : Nat) : Int)), (1, zI ((zrep (rgR false 2 gLk) i8 (snM M, ((0 : Int), (0 : Int)))).2.1)), (0, zR 38)] [] ((zrep (rgR false 2 gLk) i8 (snM M, ((0 : Int), (0 : Int)))).1)
      refine z_ald (pc := 16) hc 2 rfl dX6_lakes_16 ?_
      refine z_ild (pc := 17) hc 0 rfl dX6_lakes_17 ?_
      refine kc_X6_97 (pc := 18) hc rfl (zfitX (by decide) rfl rfl) rfl (Nat.le_of_ble_eq_true rfl) (ct_X6_isLandAt ((zrep (rgR false 2 gLk) i8 (snM M, ((0 : Int), (0 : Int)))).1) (by assumption) ((i8 : Nat) : Int) (by omega)) dX6_lakes_18 ?_
      refine z_bne (pc := 21) (tgt := 58) hc (by decide) dX6_lakes_21 (fun h21 => ?_) (fun h21 => ?_)
      · show zJW X 58 [(2, zI ((i8 : Nat) : Int)), (1, zI ((zrep (rgR false 2 gLk) i8 (snM M, ((0 : Int), (0 : Int)))).2.1)), (0, zR 38)] [] ((zrep (rgR false 2 gLk) i8 (snM M, ((0 : Int), (0 : Int)))).1)
        refine z_iinc (pc := 58) (lv' := [(2, zI (((i8 : Nat) : Int) + 1)), (1, zI ((zrep (rgR false 2 gLk) i8 (snM M, ((0 : Int), (0 : Int)))).2.1)), (0, zR 38)]) hc 0 rfl rfl (by decide) dX6_lakes_58 ?_
        refine z_goto (pc := 61) (tgt := 8) hc (by decide) dX6_lakes_61 ?_
        exact zJW_eq (by rw [zrep_succ]; first | (rw [rgR_n1 h21]; rfl) | (rw [rgR_n2 h30]; rfl) | (rw [rgR_y h21 h30]; simp only [gLk]; rw [h48, if_pos (show zbz (!false) = 1 from rfl)]; rfl) | (rw [rgR_y h21 h30]; simp only [gLk]; rw [h48, if_neg (show ¬ zbz (!true) = 1 by decide)]; rfl)) rfl (by rw [zrep_succ]; first | (rw [rgR_n1 h21]; done) | (rw [rgR_n2 h30]; done) | (rw [rgR_y h21 h30]; done)) ih8
      · show zJW X 24 [(2, zI ((i8 : Nat) : Int)), (1, zI ((zrep (rgR false 2 gLk) i8 (snM M, ((0 : Int), (0 : Int)))).2.1)), (0, zR 38)] [] ((zrep (rgR false 2 gLk) i8 (snM M, ((0 : Int), (0 : Int)))).1)
        refine z_ald (pc := 24) hc 2 rfl dX6_lakes_24 ?_
        refine fg_X6_47 (pc := 25) hc rfl rfl dX6_lakes_25 ?_
        refine z_ild (pc := 28) hc 0 rfl dX6_lakes_28 ?_
        refine z_zald (pc := 29) hc rfl rfl rfl (by decide) (by omega) dX6_lakes_29 ?_
        refine z_ine (pc := 30) (tgt := 58) hc (by omega) (by decide) dX6_lakes_30 (fun h30 => ?_) (fun h30 => ?_)
        · show zJW X 58 [(2, zI ((i8 : Nat) : Int)), (1, zI ((zrep (rgR false 2 gLk) i8 (snM M, ((0 : Int), (0 : Int)))).2.1)), (0, zR 38)] [] ((zrep (rgR false 2 gLk) i8 (snM M, ((0 : Int), (0 : Int)))).1)
          refine z_iinc (pc := 58) (lv' := [(2, zI (((i8 : Nat) : Int) + 1)), (1, zI ((zrep (rgR false 2 gLk) i8 (snM M, ((0 : Int), (0 : Int)))).2.1)), (0, zR 38)]) hc 0 rfl rfl (by decide) dX6_lakes_58 ?_
          refine z_goto (pc := 61) (tgt := 8) hc (by decide) dX6_lakes_61 ?_
          exact zJW_eq (by rw [zrep_succ]; first | (rw [rgR_n1 h21]; rfl) | (rw [rgR_n2 h30]; rfl) | (rw [rgR_y h21 h30]; simp only [gLk]; rw [h48, if_pos (show zbz (!false) = 1 from rfl)]; rfl) | (rw [rgR_y h21 h30]; simp only [gLk]; rw [h48, if_neg (show ¬ zbz (!true) = 1 by decide)]; rfl)) rfl (by rw [zrep_succ]; first | (rw [rgR_n1 h21]; done) | (rw [rgR_n2 h30]; done) | (rw [rgR_y h21 h30]; done)) ih8
        · show zJW X 33 [(2, zI ((i8 : Nat) : Int)), (1, zI ((zrep (rgR false 2 gLk) i8 (snM M, ((0 : Int), (0 : Int)))).2.1)), (0, zR 38)] [] ((zrep (rgR false 2 gLk) i8 (snM M, ((0 : Int), (0 : Int)))).1)
          refine z_ald (pc := 33) hc 2 rfl dX6_lakes_33 ?_
          refine z_ild (pc := 34) hc 0 rfl dX6_lakes_34 ?_
          refine z_iconst (pc := 35) hc 0 dX6_lakes_35 ?_
          refine kc_X6_132 (pc := 36) hc rfl (zfitX (by decide) rfl rfl) rfl (Nat.le_of_ble_eq_true rfl) (ct_X6_frf ((zrep (rgR false 2 gLk) i8 (snM M, ((0 : Int), (0 : Int)))).1) (by assumption) ((i8 : Nat) : Int) (by first | assumption | omega)) dX6_lakes_36 ?_
          rw [h21]
          have hf := frM_ok (e := 2) hiZ hik h21
          have hfQ := frQ_of hf
          have hfZ : zRf ((frM (zrep (rgR false 2 gLk) i8 (snM M, ((0 : Int), (0 : Int)))).1 ((i8 : Nat) : Int) false 2 144) 39) := by rw [srI_39 hf]; exact hiZ
          obtain ⟨hfq1, hfq2, -⟩ := id hfQ
          refine z_ald (pc := 39) hc 2 rfl dX6_lakes_39 ?_
          refine kc_X6_166 (pc := 40) hc rfl (zfitX (by decide) rfl rfl) rfl (Nat.le_of_ble_eq_true rfl) (ct_X6_seeFound (frM (zrep (rgR false 2 gLk) i8 (snM M, ((0 : Int), (0 : Int)))).1 ((i8 : Nat) : Int) false 2 144) (by assumption) (by assumption) ) dX6_lakes_40 ?_
          show zJW X _ _ _ (seR (zrep (rgR false 2 gLk) i8 (snM M, ((0 : Int), (0 : Int)))).1 ((i8 : Nat) : Int) false 2 144)
          have hse := seR_P (e := 2) hZs hi (by rw [hip]; omega) h21
          have hse9 : (seR (zrep (rgR false 2 gLk) i8 (snM M, ((0 : Int), (0 : Int)))).1 ((i8 : Nat) : Int) false 2 144) 39 = M 39 := (srP_39 hse).trans hsn39
          have hsp : (seR (zrep (rgR false 2 gLk) i8 (snM M, ((0 : Int), (0 : Int)))).1 ((i8 : Nat) : Int) false 2 144) 39 0 * (seR (zrep (rgR false 2 gLk) i8 (snM M, ((0 : Int), (0 : Int)))).1 ((i8 : Nat) : Int) false 2 144) 39 1 = M 39 0 * M 39 1 := by rw [hse9]
          have hseZ : zRf ((seR (zrep (rgR false 2 gLk) i8 (snM M, ((0 : Int), (0 : Int)))).1 ((i8 : Nat) : Int) false 2 144) 39) := by rw [hse9]; exact hZ
          have hs38 : (seR (zrep (rgR false 2 gLk) i8 (snM M, ((0 : Int), (0 : Int)))).1 ((i8 : Nat) : Int) false 2 144) 38 = (frM (zrep (rgR false 2 gLk) i8 (snM M, ((0 : Int), (0 : Int)))).1 ((i8 : Nat) : Int) false 2 144) 38 := sfM_off (by decide) _
          have hs46 : (seR (zrep (rgR false 2 gLk) i8 (snM M, ((0 : Int), (0 : Int)))).1 ((i8 : Nat) : Int) false 2 144) 46 = (frM (zrep (rgR false 2 gLk) i8 (snM M, ((0 : Int), (0 : Int)))).1 ((i8 : Nat) : Int) false 2 144) 46 := sfM_off (by decide) _
          have hseQ : frQ (seR (zrep (rgR false 2 gLk) i8 (snM M, ((0 : Int), (0 : Int)))).1 ((i8 : Nat) : Int) false 2 144) := by
            unfold frQ
            rw [hs38, hs46, hse9, ← hi9, ← srI_39 hf]
            exact hfQ
          refine z_ild (pc := 43) hc 1 rfl dX6_lakes_43 ?_
          refine z_ald (pc := 44) hc 2 rfl dX6_lakes_44 ?_
          refine kc_X6_169 (pc := 45) hc rfl (zfitX (by decide) rfl rfl) rfl (Nat.le_of_ble_eq_true rfl) (ct_X6_isInside (seR (zrep (rgR false 2 gLk) i8 (snM M, ((0 : Int), (0 : Int)))).1 ((i8 : Nat) : Int) false 2 144) (by assumption) (by assumption) ) dX6_lakes_45 ?_
          rw [hs38, show iiM (seR (zrep (rgR false 2 gLk) i8 (snM M, ((0 : Int), (0 : Int)))).1 ((i8 : Nat) : Int) false 2 144) ((frM (zrep (rgR false 2 gLk) i8 (snM M, ((0 : Int), (0 : Int)))).1 ((i8 : Nat) : Int) false 2 144) 38 12).toNat = iiM (frM (zrep (rgR false 2 gLk) i8 (snM M, ((0 : Int), (0 : Int)))).1 ((i8 : Nat) : Int) false 2 144) ((frM (zrep (rgR false 2 gLk) i8 (snM M, ((0 : Int), (0 : Int)))).1 ((i8 : Nat) : Int) false 2 144) 38 12).toNat from iiM_sf _ _]
          refine z_beq (pc := 48) (tgt := 55) hc (by decide) dX6_lakes_48 (fun h48 => ?_) (fun h48 => ?_)
          · show zJW X 55 [(2, zI ((i8 : Nat) : Int)), (1, zI ((zrep (rgR false 2 gLk) i8 (snM M, ((0 : Int), (0 : Int)))).2.1)), (0, zR 38)] [zI ((zrep (rgR false 2 gLk) i8 (snM M, ((0 : Int), (0 : Int)))).2.1)] (seR (zrep (rgR false 2 gLk) i8 (snM M, ((0 : Int), (0 : Int)))).1 ((i8 : Nat) : Int) false 2 144)
            refine z_iconst (pc := 55) hc 0 dX6_lakes_55 ?_
            refine z_iadd (pc := 56) hc dX6_lakes_56 ?_
            refine z_ist (pc := 57) (lv' := [(1, zI ((zrep (rgR false 2 gLk) i8 (snM M, ((0 : Int), (0 : Int)))).2.1 + 0)), (2, zI ((i8 : Nat) : Int)), (0, zR 38)]) hc rfl (by decide) dX6_lakes_57 ?_
            refine z_iinc (pc := 58) (lv' := [(2, zI (((i8 : Nat) : Int) + 1)), (1, zI ((zrep (rgR false 2 gLk) i8 (snM M, ((0 : Int), (0 : Int)))).2.1 + 0)), (0, zR 38)]) hc 1 rfl rfl (by decide) dX6_lakes_58 ?_
            refine z_goto (pc := 61) (tgt := 8) hc (by decide) dX6_lakes_61 ?_
            exact zJW_eq (by rw [zrep_succ]; first | (rw [rgR_n1 h21]; rfl) | (rw [rgR_n2 h30]; rfl) | (rw [rgR_y h21 h30]; simp only [gLk]; rw [h48, if_pos (show zbz (!false) = 1 from rfl)]; rfl) | (rw [rgR_y h21 h30]; simp only [gLk]; rw [h48, if_neg (show ¬ zbz (!true) = 1 by decide)]; rfl)) rfl (by rw [zrep_succ]; first | (rw [rgR_n1 h21]; done) | (rw [rgR_n2 h30]; done) | (rw [rgR_y h21 h30]; done)) ih8
          · show zJW X 51 [(2, zI ((i8 : Nat) : Int)), (1, zI ((zrep (rgR false 2 gLk) i8 (snM M, ((0 : Int), (0 : Int)))).2.1)), (0, zR 38)] [zI ((zrep (rgR false 2 gLk) i8 (snM M, ((0 : Int), (0 : Int)))).2.1)] (seR (zrep (rgR false 2 gLk) i8 (snM M, ((0 : Int), (0 : Int)))).1 ((i8 : Nat) : Int) false 2 144)
            refine z_iconst (pc := 51) hc 1 dX6_lakes_51 ?_
            refine z_goto (pc := 52) (tgt := 56) hc (by decide) dX6_lakes_52 ?_
            refine z_iadd (pc := 56) hc dX6_lakes_56 ?_
            refine z_ist (pc := 57) (lv' := [(1, zI ((zrep (rgR false 2 gLk) i8 (snM M, ((0 : Int), (0 : Int)))).2.1 + 1)), (2, zI ((i8 : Nat) : Int)), (0, zR 38)]) hc rfl (by decide) dX6_lakes_57 ?_
            refine z_iinc (pc := 58) (lv' := [(2, zI (((i8 : Nat) : Int) + 1)), (1, zI ((zrep (rgR false 2 gLk) i8 (snM M, ((0 : Int), (0 : Int)))).2.1 + 1)), (0, zR 38)]) hc 1 rfl rfl (by decide) dX6_lakes_58 ?_
            refine z_goto (pc := 61) (tgt := 8) hc (by decide) dX6_lakes_61 ?_
            exact zJW_eq (by rw [zrep_succ]; first | (rw [rgR_n1 h21]; rfl) | (rw [rgR_n2 h30]; rfl) | (rw [rgR_y h21 h30]; simp only [gLk]; rw [h48, if_pos (show zbz (!false) = 1 from rfl)]; rfl) | (rw [rgR_y h21 h30]; simp only [gLk]; rw [h48, if_neg (show ¬ zbz (!true) = 1 by decide)]; rfl)) rfl (by rw [zrep_succ]; first | (rw [rgR_n1 h21]; done) | (rw [rgR_n2 h30]; done) | (rw [rgR_y h21 h30]; done)) ih8

set_option maxRecDepth 100000 in
set_option maxHeartbeats 4000000 in
theorem ct_X6_largestIsland (M : Mem) (hZ : zRf (M 39))  : zCt yX6_largestIsland KX6_largestIsland [zR 38] M (fun zv zM => zv = some ((zrep (rgR true 1 gLg) (M 39 0 * M 39 1).toNat (snM M, ((0 : Int), (-6 : Int)))).2.2) ∧ zM = (zrep (rgR true 1 gLg) (M 39 0 * M 39 1).toNat (snM M, ((0 : Int), (-6 : Int)))).1) := by
  obtain ⟨hs1, hs2, hs3, hs4, hs5, hs6, hs7⟩ := id hZ
  have hw9 := zhw hs1 hs2 hs3 hs4
  have hsn39 : snM M 39 = M 39 := snM_off (by decide)
  have hZs : zRf (snM M 39) := by rw [hsn39]; exact hZ
  refine z_met (by decide) rfl (Nat.le_of_ble_eq_true rfl) (fun X hc he => ?_)
  show zJW X 0 [(0, zR 38)] [] M
  refine z_ald (pc := 0) hc 0 rfl dX6_largestIsland_0 ?_
  refine kc_X6_163 (pc := 1) hc rfl (zfitX (by decide) rfl rfl) rfl (Nat.le_of_ble_eq_true rfl) (ct_X6_seeNone M) dX6_largestIsland_1 ?_
  refine z_bipush (pc := 4) hc (-6) (by decide) dX6_largestIsland_4 ?_
  refine z_ist (pc := 6) (lv' := [(1, zI (-6)), (0, zR 38)]) hc rfl (by decide) dX6_largestIsland_6 ?_
  refine z_iconst (pc := 7) hc 0 dX6_largestIsland_7 ?_
  refine z_ist (pc := 8) (lv' := [(2, zI 0), (1, zI (-6)), (0, zR 38)]) hc rfl (by decide) dX6_largestIsland_8 ?_
  refine z_iconst (pc := 9) hc 0 dX6_largestIsland_9 ?_
  refine z_ist (pc := 10) (lv' := [(3, zI 0), (2, zI 0), (1, zI (-6)), (0, zR 38)]) hc rfl (by decide) dX6_largestIsland_10 ?_
  refine z_for ((M 39 0 * M 39 1).toNat) (fun i11 => [(3, zI ((i11 : Nat) : Int)), (2, zI ((zrep (rgR true 1 gLg) i11 (snM M, ((0 : Int), (-6 : Int)))).2.1)), (1, zI ((zrep (rgR true 1 gLg) i11 (snM M, ((0 : Int), (-6 : Int)))).2.2)), (0, zR 38)]) (fun i11 => (zrep (rgR true 1 gLg) i11 (snM M, ((0 : Int), (-6 : Int)))).1) (by rfl) (by rfl) ?_ (fun i11 hi11 ih11 => ?_)
  · show zJW X 11 [(3, zI ((((M 39 0 * M 39 1).toNat) : Nat) : Int)), (2, zI ((zrep (rgR true 1 gLg) ((M 39 0 * M 39 1).toNat) (snM M, ((0 : Int), (-6 : Int)))).2.1)), (1, zI ((zrep (rgR true 1 gLg) ((M 39 0 * M 39 1).toNat) (snM M, ((0 : Int), (-6 : Int)))).2.2)), (0, zR 38)] [] ((zrep (rgR true 1 gLg) ((M 39 0 * M 39 1).toNat) (snM M, ((0 : Int), (-6 : Int)))).1)
    have hxQ := rgRs_Q (l := true) (e := 1) (q := (snM M, ((0 : Int), (-6 : Int)))) hZs ⟨snM_P, (Int.le_refl 0 : (0 : Int) ≤ 0), (show (0 : Int) ≤ 144 by decide)⟩ (n := (M 39 0 * M 39 1).toNat) (by rw [hsn39]; omega)
    have hx := hxQ.1
    obtain ⟨hxq1, hxq2⟩ := hxQ.2
    have hx9 : (zrep (rgR true 1 gLg) (M 39 0 * M 39 1).toNat (snM M, ((0 : Int), (-6 : Int)))).1 39 = M 39 := (srP_39 hx).trans hsn39
    have hxp : (zrep (rgR true 1 gLg) (M 39 0 * M 39 1).toNat (snM M, ((0 : Int), (-6 : Int)))).1 39 0 * (zrep (rgR true 1 gLg) (M 39 0 * M 39 1).toNat (snM M, ((0 : Int), (-6 : Int)))).1 39 1 = M 39 0 * M 39 1 := by rw [hx9]
    have hx0 := congrFun hx9 0
    have hx1 := congrFun hx9 1
    refine z_ild (pc := 11) hc 0 rfl dX6_largestIsland_11 ?_
    refine z_ald (pc := 12) hc 3 rfl dX6_largestIsland_12 ?_
    refine kc_X6_116 (pc := 13) hc rfl (zfitX (by decide) rfl rfl) rfl (Nat.le_of_ble_eq_true rfl) (ct_X6_tiles ((zrep (rgR true 1 gLg) ((M 39 0 * M 39 1).toNat) (snM M, ((0 : Int), (-6 : Int)))).1)) dX6_largestIsland_13 ?_
    refine z_cge (pc := 16) (tgt := 87) hc (by omega) (by decide) dX6_largestIsland_16 (fun h16 => ?_) (fun h16 => ?_)
    · show zJW X 87 [(3, zI ((((M 39 0 * M 39 1).toNat) : Nat) : Int)), (2, zI ((zrep (rgR true 1 gLg) ((M 39 0 * M 39 1).toNat) (snM M, ((0 : Int), (-6 : Int)))).2.1)), (1, zI ((zrep (rgR true 1 gLg) ((M 39 0 * M 39 1).toNat) (snM M, ((0 : Int), (-6 : Int)))).2.2)), (0, zR 38)] [] ((zrep (rgR true 1 gLg) ((M 39 0 * M 39 1).toNat) (snM M, ((0 : Int), (-6 : Int)))).1)
      refine z_ild (pc := 87) hc 2 rfl dX6_largestIsland_87 ?_
      exact z_iret (pc := 88) hc he rfl dX6_largestIsland_88 (⟨rfl, rfl⟩)
    · exfalso; omega
  · show zJW X 11 [(3, zI ((i11 : Nat) : Int)), (2, zI ((zrep (rgR true 1 gLg) i11 (snM M, ((0 : Int), (-6 : Int)))).2.1)), (1, zI ((zrep (rgR true 1 gLg) i11 (snM M, ((0 : Int), (-6 : Int)))).2.2)), (0, zR 38)] [] ((zrep (rgR true 1 gLg) i11 (snM M, ((0 : Int), (-6 : Int)))).1)
    have hiQ := rgRs_Q (l := true) (e := 1) (q := (snM M, ((0 : Int), (-6 : Int)))) hZs ⟨snM_P, (Int.le_refl 0 : (0 : Int) ≤ 0), (show (0 : Int) ≤ 144 by decide)⟩ (n := i11) (by rw [hsn39]; omega)
    have hi := hiQ.1
    obtain ⟨hiq1, hiq2⟩ := hiQ.2
    have hi9 : (zrep (rgR true 1 gLg) i11 (snM M, ((0 : Int), (-6 : Int)))).1 39 = M 39 := (srP_39 hi).trans hsn39
    have hip : (zrep (rgR true 1 gLg) i11 (snM M, ((0 : Int), (-6 : Int)))).1 39 0 * (zrep (rgR true 1 gLg) i11 (snM M, ((0 : Int), (-6 : Int)))).1 39 1 = M 39 0 * M 39 1 := by rw [hi9]
    have hi0 := congrFun hi9 0
    have hi1 := congrFun hi9 1
    have hiZ : zRf ((zrep (rgR true 1 gLg) i11 (snM M, ((0 : Int), (-6 : Int)))).1 39) := by rw [hi9]; exact hZ
    have hik : 0 ≤ ((i11 : Nat) : Int) ∧ ((i11 : Nat) : Int) < (zrep (rgR true 1 gLg) i11 (snM M, ((0 : Int), (-6 : Int)))).1 39 0 * (zrep (rgR true 1 gLg) i11 (snM M, ((0 : Int), (-6 : Int)))).1 39 1 := by rw [hip]; omega
    have hi51 := hi.2.2 ((i11 : Nat) : Int) (by omega) (by omega)
    refine z_ild (pc := 11) hc 0 rfl dX6_largestIsland_11 ?_
    refine z_ald (pc := 12) hc 3 rfl dX6_largestIsland_12 ?_
    refine kc_X6_116 (pc := 13) hc rfl (zfitX (by decide) rfl rfl) rfl (Nat.le_of_ble_eq_true rfl) (ct_X6_tiles ((zrep (rgR true 1 gLg) i11 (snM M, ((0 : Int), (-6 : Int)))).1)) dX6_largestIsland_13 ?_
    refine z_cge (pc := 16) (tgt := 87) hc (by omega) (by decide) dX6_largestIsland_16 (fun h16 => ?_) (fun h16 => ?_)
    · exfalso; omega
    · show zJW X 19 [(3, zI ((i11 : Nat) : Int)), (2, zI ((zrep (rgR true 1 gLg) i11 (snM M, ((0 : Int), (-6 : Int)))).2.1)), (1, zI ((zrep (rgR true 1 gLg) i11 (snM M, ((0 : Int), (-6 : Int)))).2.2)), (0, zR 38)] [] ((zrep (rgR true 1 gLg) i11 (snM M, ((0 : Int), (-6 : Int)))).1)
      refine z_ald (pc := 19) hc 3 rfl dX6_largestIsland_19 ?_
      refine z_ild (pc := 20) hc 0 rfl dX6_largestIsland_20 ?_
      refine kc_X6_97 (pc := 21) hc rfl (zfitX (by decide) rfl rfl) rfl (Nat.le_of_ble_eq_true rfl) (ct_X6_isLandAt ((zrep (rgR true 1 gLg) i11 (snM M, ((0 : Int), (-6 : Int)))).1) (by assumption) ((i11 : Nat) : Int) (by omega)) dX6_largestIsland_21 ?_
      refine z_beq (pc := 24) (tgt := 81) hc (by decide) dX6_largestIsland_24 (fun h24 => ?_) (fun h24 => ?_)
      · show zJW X 81 [(3, zI ((i11 : Nat) : Int)), (2, zI ((zrep (rgR true 1 gLg) i11 (snM M, ((0 : Int), (-6 : Int)))).2.1)), (1, zI ((zrep (rgR true 1 gLg) i11 (snM M, ((0 : Int), (-6 : Int)))).2.2)), (0, zR 38)] [] ((zrep (rgR true 1 gLg) i11 (snM M, ((0 : Int), (-6 : Int)))).1)
        refine z_iinc (pc := 81) (lv' := [(3, zI (((i11 : Nat) : Int) + 1)), (2, zI ((zrep (rgR true 1 gLg) i11 (snM M, ((0 : Int), (-6 : Int)))).2.1)), (1, zI ((zrep (rgR true 1 gLg) i11 (snM M, ((0 : Int), (-6 : Int)))).2.2)), (0, zR 38)]) hc 0 rfl rfl (by decide) dX6_largestIsland_81 ?_
        refine z_goto (pc := 84) (tgt := 11) hc (by decide) dX6_largestIsland_84 ?_
        exact zJW_eq (by rw [zrep_succ]; first | (rw [rgR_n1 h24]; rfl) | (rw [rgR_n2 h33]; rfl) | (exfalso; omega) | (rw [rgR_y h24 h33]; simp only [gLg]; rw [if_neg (by omega)]; rfl) | (rw [rgR_y h24 h33]; simp only [gLg]; rw [if_pos (by omega)]; rfl)) rfl (by rw [zrep_succ]; first | (rw [rgR_n1 h24]; done) | (rw [rgR_n2 h33]; done) | (rw [rgR_y h24 h33]; done)) ih11
      · show zJW X 27 [(3, zI ((i11 : Nat) : Int)), (2, zI ((zrep (rgR true 1 gLg) i11 (snM M, ((0 : Int), (-6 : Int)))).2.1)), (1, zI ((zrep (rgR true 1 gLg) i11 (snM M, ((0 : Int), (-6 : Int)))).2.2)), (0, zR 38)] [] ((zrep (rgR true 1 gLg) i11 (snM M, ((0 : Int), (-6 : Int)))).1)
        refine z_ald (pc := 27) hc 3 rfl dX6_largestIsland_27 ?_
        refine fg_X6_47 (pc := 28) hc rfl rfl dX6_largestIsland_28 ?_
        refine z_ild (pc := 31) hc 0 rfl dX6_largestIsland_31 ?_
        refine z_zald (pc := 32) hc rfl rfl rfl (by decide) (by omega) dX6_largestIsland_32 ?_
        refine z_ine (pc := 33) (tgt := 81) hc (by omega) (by decide) dX6_largestIsland_33 (fun h33 => ?_) (fun h33 => ?_)
        · show zJW X 81 [(3, zI ((i11 : Nat) : Int)), (2, zI ((zrep (rgR true 1 gLg) i11 (snM M, ((0 : Int), (-6 : Int)))).2.1)), (1, zI ((zrep (rgR true 1 gLg) i11 (snM M, ((0 : Int), (-6 : Int)))).2.2)), (0, zR 38)] [] ((zrep (rgR true 1 gLg) i11 (snM M, ((0 : Int), (-6 : Int)))).1)
          refine z_iinc (pc := 81) (lv' := [(3, zI (((i11 : Nat) : Int) + 1)), (2, zI ((zrep (rgR true 1 gLg) i11 (snM M, ((0 : Int), (-6 : Int)))).2.1)), (1, zI ((zrep (rgR true 1 gLg) i11 (snM M, ((0 : Int), (-6 : Int)))).2.2)), (0, zR 38)]) hc 0 rfl rfl (by decide) dX6_largestIsland_81 ?_
          refine z_goto (pc := 84) (tgt := 11) hc (by decide) dX6_largestIsland_84 ?_
          exact zJW_eq (by rw [zrep_succ]; first | (rw [rgR_n1 h24]; rfl) | (rw [rgR_n2 h33]; rfl) | (exfalso; omega) | (rw [rgR_y h24 h33]; simp only [gLg]; rw [if_neg (by omega)]; rfl) | (rw [rgR_y h24 h33]; simp only [gLg]; rw [if_pos (by omega)]; rfl)) rfl (by rw [zrep_succ]; first | (rw [rgR_n1 h24]; done) | (rw [rgR_n2 h33]; done) | (rw [rgR_y h24 h33]; done)) ih11
        · show zJW X 36 [(3, zI ((i11 : Nat) : Int)), (2, zI ((zrep (rgR true 1 gLg) i11 (snM M, ((0 : Int), (-6 : Int)))).2.1)), (1, zI ((zrep (rgR true 1 gLg) i11 (snM M, ((0 : Int), (-6 : Int)))).2.2)), (0, zR 38)] [] ((zrep (rgR true 1 gLg) i11 (snM M, ((0 : Int), (-6 : Int)))).1)
          refine z_ald (pc := 36) hc 3 rfl dX6_largestIsland_36 ?_
          refine z_ild (pc := 37) hc 0 rfl dX6_largestIsland_37 ?_
          refine z_iconst (pc := 38) hc 1 dX6_largestIsland_38 ?_
          refine kc_X6_132 (pc := 39) hc rfl (zfitX (by decide) rfl rfl) rfl (Nat.le_of_ble_eq_true rfl) (ct_X6_frt ((zrep (rgR true 1 gLg) i11 (snM M, ((0 : Int), (-6 : Int)))).1) (by assumption) ((i11 : Nat) : Int) (by first | assumption | omega)) dX6_largestIsland_39 ?_
          rw [h24]
          have hf := frM_ok (e := 1) hiZ hik h24
          have hfQ := frQ_of hf
          have hfZ : zRf ((frM (zrep (rgR true 1 gLg) i11 (snM M, ((0 : Int), (-6 : Int)))).1 ((i11 : Nat) : Int) true 1 144) 39) := by rw [srI_39 hf]; exact hiZ
          obtain ⟨hfq1, hfq2, -⟩ := id hfQ
          refine z_ald (pc := 42) hc 3 rfl dX6_largestIsland_42 ?_
          refine kc_X6_166 (pc := 43) hc rfl (zfitX (by decide) rfl rfl) rfl (Nat.le_of_ble_eq_true rfl) (ct_X6_seeFound (frM (zrep (rgR true 1 gLg) i11 (snM M, ((0 : Int), (-6 : Int)))).1 ((i11 : Nat) : Int) true 1 144) (by assumption) (by assumption) ) dX6_largestIsland_43 ?_
          show zJW X _ _ _ (seR (zrep (rgR true 1 gLg) i11 (snM M, ((0 : Int), (-6 : Int)))).1 ((i11 : Nat) : Int) true 1 144)
          have hse := seR_P (e := 1) hZs hi (by rw [hip]; omega) h24
          have hse9 : (seR (zrep (rgR true 1 gLg) i11 (snM M, ((0 : Int), (-6 : Int)))).1 ((i11 : Nat) : Int) true 1 144) 39 = M 39 := (srP_39 hse).trans hsn39
          have hsp : (seR (zrep (rgR true 1 gLg) i11 (snM M, ((0 : Int), (-6 : Int)))).1 ((i11 : Nat) : Int) true 1 144) 39 0 * (seR (zrep (rgR true 1 gLg) i11 (snM M, ((0 : Int), (-6 : Int)))).1 ((i11 : Nat) : Int) true 1 144) 39 1 = M 39 0 * M 39 1 := by rw [hse9]
          have hseZ : zRf ((seR (zrep (rgR true 1 gLg) i11 (snM M, ((0 : Int), (-6 : Int)))).1 ((i11 : Nat) : Int) true 1 144) 39) := by rw [hse9]; exact hZ
          have hs38 : (seR (zrep (rgR true 1 gLg) i11 (snM M, ((0 : Int), (-6 : Int)))).1 ((i11 : Nat) : Int) true 1 144) 38 = (frM (zrep (rgR true 1 gLg) i11 (snM M, ((0 : Int), (-6 : Int)))).1 ((i11 : Nat) : Int) true 1 144) 38 := sfM_off (by decide) _
          have hs46 : (seR (zrep (rgR true 1 gLg) i11 (snM M, ((0 : Int), (-6 : Int)))).1 ((i11 : Nat) : Int) true 1 144) 46 = (frM (zrep (rgR true 1 gLg) i11 (snM M, ((0 : Int), (-6 : Int)))).1 ((i11 : Nat) : Int) true 1 144) 46 := sfM_off (by decide) _
          have hseQ : frQ (seR (zrep (rgR true 1 gLg) i11 (snM M, ((0 : Int), (-6 : Int)))).1 ((i11 : Nat) : Int) true 1 144) := by
            unfold frQ
            rw [hs38, hs46, hse9, ← hi9, ← srI_39 hf]
            exact hfQ
          refine z_ald (pc := 46) hc 3 rfl dX6_largestIsland_46 ?_
          refine fg_X6_129 (pc := 47) hc rfl rfl dX6_largestIsland_47 ?_
          rw [hs38]
          refine z_ild (pc := 50) hc 1 rfl dX6_largestIsland_50 ?_
          refine z_cle (pc := 51) (tgt := 62) hc (by omega) (by decide) dX6_largestIsland_51 (fun h51 => ?_) (fun h51 => ?_)
          · show zJW X 62 [(3, zI ((i11 : Nat) : Int)), (2, zI ((zrep (rgR true 1 gLg) i11 (snM M, ((0 : Int), (-6 : Int)))).2.1)), (1, zI ((zrep (rgR true 1 gLg) i11 (snM M, ((0 : Int), (-6 : Int)))).2.2)), (0, zR 38)] [] (seR (zrep (rgR true 1 gLg) i11 (snM M, ((0 : Int), (-6 : Int)))).1 ((i11 : Nat) : Int) true 1 144)
            refine z_ild (pc := 62) hc 2 rfl dX6_largestIsland_62 ?_
            refine z_ist (pc := 63) (lv' := [(1, zI ((zrep (rgR true 1 gLg) i11 (snM M, ((0 : Int), (-6 : Int)))).2.2)), (3, zI ((i11 : Nat) : Int)), (2, zI ((zrep (rgR true 1 gLg) i11 (snM M, ((0 : Int), (-6 : Int)))).2.1)), (0, zR 38)]) hc rfl (by decide) dX6_largestIsland_63 ?_
            refine z_ald (pc := 64) hc 3 rfl dX6_largestIsland_64 ?_
            refine fg_X6_129 (pc := 65) hc rfl rfl dX6_largestIsland_65 ?_
            rw [hs38]
            refine z_ild (pc := 68) hc 2 rfl dX6_largestIsland_68 ?_
            refine z_cle (pc := 69) (tgt := 79) hc (by omega) (by decide) dX6_largestIsland_69 (fun h69 => ?_) (fun h69 => ?_)
            · show zJW X 79 [(1, zI ((zrep (rgR true 1 gLg) i11 (snM M, ((0 : Int), (-6 : Int)))).2.2)), (3, zI ((i11 : Nat) : Int)), (2, zI ((zrep (rgR true 1 gLg) i11 (snM M, ((0 : Int), (-6 : Int)))).2.1)), (0, zR 38)] [] (seR (zrep (rgR true 1 gLg) i11 (snM M, ((0 : Int), (-6 : Int)))).1 ((i11 : Nat) : Int) true 1 144)
              refine z_ild (pc := 79) hc 2 rfl dX6_largestIsland_79 ?_
              refine z_ist (pc := 80) (lv' := [(2, zI ((zrep (rgR true 1 gLg) i11 (snM M, ((0 : Int), (-6 : Int)))).2.1)), (1, zI ((zrep (rgR true 1 gLg) i11 (snM M, ((0 : Int), (-6 : Int)))).2.2)), (3, zI ((i11 : Nat) : Int)), (0, zR 38)]) hc rfl (by decide) dX6_largestIsland_80 ?_
              refine z_iinc (pc := 81) (lv' := [(3, zI (((i11 : Nat) : Int) + 1)), (2, zI ((zrep (rgR true 1 gLg) i11 (snM M, ((0 : Int), (-6 : Int)))).2.1)), (1, zI ((zrep (rgR true 1 gLg) i11 (snM M, ((0 : Int), (-6 : Int)))).2.2)), (0, zR 38)]) hc 2 rfl rfl (by decide) dX6_largestIsland_81 ?_
              refine z_goto (pc := 84) (tgt := 11) hc (by decide) dX6_largestIsland_84 ?_
              exact zJW_eq (by rw [zrep_succ]; first | (rw [rgR_n1 h24]; rfl) | (rw [rgR_n2 h33]; rfl) | (exfalso; omega) | (rw [rgR_y h24 h33]; simp only [gLg]; rw [if_neg (by omega)]; rfl) | (rw [rgR_y h24 h33]; simp only [gLg]; rw [if_pos (by omega)]; rfl)) rfl (by rw [zrep_succ]; first | (rw [rgR_n1 h24]; done) | (rw [rgR_n2 h33]; done) | (rw [rgR_y h24 h33]; done)) ih11
            · show zJW X 72 [(1, zI ((zrep (rgR true 1 gLg) i11 (snM M, ((0 : Int), (-6 : Int)))).2.2)), (3, zI ((i11 : Nat) : Int)), (2, zI ((zrep (rgR true 1 gLg) i11 (snM M, ((0 : Int), (-6 : Int)))).2.1)), (0, zR 38)] [] (seR (zrep (rgR true 1 gLg) i11 (snM M, ((0 : Int), (-6 : Int)))).1 ((i11 : Nat) : Int) true 1 144)
              refine z_ald (pc := 72) hc 3 rfl dX6_largestIsland_72 ?_
              refine fg_X6_129 (pc := 73) hc rfl rfl dX6_largestIsland_73 ?_
              rw [hs38]
              refine z_goto (pc := 76) (tgt := 80) hc (by decide) dX6_largestIsland_76 ?_
              refine z_ist (pc := 80) (lv' := [(2, zI ((frM (zrep (rgR true 1 gLg) i11 (snM M, ((0 : Int), (-6 : Int)))).1 ((i11 : Nat) : Int) true 1 144) 38 12)), (1, zI ((zrep (rgR true 1 gLg) i11 (snM M, ((0 : Int), (-6 : Int)))).2.2)), (3, zI ((i11 : Nat) : Int)), (0, zR 38)]) hc rfl (by decide) dX6_largestIsland_80 ?_
              refine z_iinc (pc := 81) (lv' := [(3, zI (((i11 : Nat) : Int) + 1)), (2, zI ((frM (zrep (rgR true 1 gLg) i11 (snM M, ((0 : Int), (-6 : Int)))).1 ((i11 : Nat) : Int) true 1 144) 38 12)), (1, zI ((zrep (rgR true 1 gLg) i11 (snM M, ((0 : Int), (-6 : Int)))).2.2)), (0, zR 38)]) hc 2 rfl rfl (by decide) dX6_largestIsland_81 ?_
              refine z_goto (pc := 84) (tgt := 11) hc (by decide) dX6_largestIsland_84 ?_
              exact zJW_eq (by rw [zrep_succ]; first | (rw [rgR_n1 h24]; rfl) | (rw [rgR_n2 h33]; rfl) | (exfalso; omega) | (rw [rgR_y h24 h33]; simp only [gLg]; rw [if_neg (by omega)]; rfl) | (rw [rgR_y h24 h33]; simp only [gLg]; rw [if_pos (by omega)]; rfl)) rfl (by rw [zrep_succ]; first | (rw [rgR_n1 h24]; done) | (rw [rgR_n2 h33]; done) | (rw [rgR_y h24 h33]; done)) ih11
          · show zJW X 54 [(3, zI ((i11 : Nat) : Int)), (2, zI ((zrep (rgR true 1 gLg) i11 (snM M, ((0 : Int), (-6 : Int)))).2.1)), (1, zI ((zrep (rgR true 1 gLg) i11 (snM M, ((0 : Int), (-6 : Int)))).2.2)), (0, zR 38)] [] (seR (zrep (rgR true 1 gLg) i11 (snM M, ((0 : Int), (-6 : Int)))).1 ((i11 : Nat) : Int) true 1 144)
            refine z_ald (pc := 54) hc 3 rfl dX6_largestIsland_54 ?_
            refine z_ild (pc := 55) hc 0 rfl dX6_largestIsland_55 ?_
            refine kc_X6_148 (pc := 56) hc rfl (zfitX (by decide) rfl rfl) rfl (Nat.le_of_ble_eq_true rfl) (ct_X6_told (seR (zrep (rgR true 1 gLg) i11 (snM M, ((0 : Int), (-6 : Int)))).1 ((i11 : Nat) : Int) true 1 144) (by assumption) ((i11 : Nat) : Int) (by first | assumption | omega)) dX6_largestIsland_56 ?_
            rw [show (seR (zrep (rgR true 1 gLg) i11 (snM M, ((0 : Int), (-6 : Int)))).1 ((i11 : Nat) : Int) true 1 144) 39 = (zrep (rgR true 1 gLg) i11 (snM M, ((0 : Int), (-6 : Int)))).1 39 from hse9.trans hi9.symm]
            refine z_goto (pc := 59) (tgt := 63) hc (by decide) dX6_largestIsland_59 ?_
            refine z_ist (pc := 63) (lv' := [(1, zI (100 * (((i11 : Nat) : Int) / (zrep (rgR true 1 gLg) i11 (snM M, ((0 : Int), (-6 : Int)))).1 39 1) + ((i11 : Nat) : Int) % (zrep (rgR true 1 gLg) i11 (snM M, ((0 : Int), (-6 : Int)))).1 39 1)), (3, zI ((i11 : Nat) : Int)), (2, zI ((zrep (rgR true 1 gLg) i11 (snM M, ((0 : Int), (-6 : Int)))).2.1)), (0, zR 38)]) hc rfl (by decide) dX6_largestIsland_63 ?_
            refine z_ald (pc := 64) hc 3 rfl dX6_largestIsland_64 ?_
            refine fg_X6_129 (pc := 65) hc rfl rfl dX6_largestIsland_65 ?_
            rw [hs38]
            refine z_ild (pc := 68) hc 2 rfl dX6_largestIsland_68 ?_
            refine z_cle (pc := 69) (tgt := 79) hc (by omega) (by decide) dX6_largestIsland_69 (fun h69 => ?_) (fun h69 => ?_)
            · show zJW X 79 [(1, zI (100 * (((i11 : Nat) : Int) / (zrep (rgR true 1 gLg) i11 (snM M, ((0 : Int), (-6 : Int)))).1 39 1) + ((i11 : Nat) : Int) % (zrep (rgR true 1 gLg) i11 (snM M, ((0 : Int), (-6 : Int)))).1 39 1)), (3, zI ((i11 : Nat) : Int)), (2, zI ((zrep (rgR true 1 gLg) i11 (snM M, ((0 : Int), (-6 : Int)))).2.1)), (0, zR 38)] [] (seR (zrep (rgR true 1 gLg) i11 (snM M, ((0 : Int), (-6 : Int)))).1 ((i11 : Nat) : Int) true 1 144)
              refine z_ild (pc := 79) hc 2 rfl dX6_largestIsland_79 ?_
              refine z_ist (pc := 80) (lv' := [(2, zI ((zrep (rgR true 1 gLg) i11 (snM M, ((0 : Int), (-6 : Int)))).2.1)), (1, zI (100 * (((i11 : Nat) : Int) / (zrep (rgR true 1 gLg) i11 (snM M, ((0 : Int), (-6 : Int)))).1 39 1) + ((i11 : Nat) : Int) % (zrep (rgR true 1 gLg) i11 (snM M, ((0 : Int), (-6 : Int)))).1 39 1)), (3, zI ((i11 : Nat) : Int)), (0, zR 38)]) hc rfl (by decide) dX6_largestIsland_80 ?_
              refine z_iinc (pc := 81) (lv' := [(3, zI (((i11 : Nat) : Int) + 1)), (2, zI ((zrep (rgR true 1 gLg) i11 (snM M, ((0 : Int), (-6 : Int)))).2.1)), (1, zI (100 * (((i11 : Nat) : Int) / (zrep (rgR true 1 gLg) i11 (snM M, ((0 : Int), (-6 : Int)))).1 39 1) + ((i11 : Nat) : Int) % (zrep (rgR true 1 gLg) i11 (snM M, ((0 : Int), (-6 : Int)))).1 39 1)), (0, zR 38)]) hc 2 rfl rfl (by decide) dX6_largestIsland_81 ?_
              refine z_goto (pc := 84) (tgt := 11) hc (by decide) dX6_largestIsland_84 ?_
              exact zJW_eq (by rw [zrep_succ]; first | (rw [rgR_n1 h24]; rfl) | (rw [rgR_n2 h33]; rfl) | (exfalso; omega) | (rw [rgR_y h24 h33]; simp only [gLg]; rw [if_neg (by omega)]; rfl) | (rw [rgR_y h24 h33]; simp only [gLg]; rw [if_pos (by omega)]; rfl)) rfl (by rw [zrep_succ]; first | (rw [rgR_n1 h24]; done) | (rw [rgR_n2 h33]; done) | (rw [rgR_y h24 h33]; done)) ih11
            · show zJW X 72 [(1, zI (100 * (((i11 : Nat) : Int) / (zrep (rgR true 1 gLg) i11 (snM M, ((0 : Int), (-6 : Int)))).1 39 1) + ((i11 : Nat) : Int) % (zrep (rgR true 1 gLg) i11 (snM M, ((0 : Int), (-6 : Int)))).1 39 1)), (3, zI ((i11 : Nat) : Int)), (2, zI ((zrep (rgR true 1 gLg) i11 (snM M, ((0 : Int), (-6 : Int)))).2.1)), (0, zR 38)] [] (seR (zrep (rgR true 1 gLg) i11 (snM M, ((0 : Int), (-6 : Int)))).1 ((i11 : Nat) : Int) true 1 144)
              refine z_ald (pc := 72) hc 3 rfl dX6_largestIsland_72 ?_
              refine fg_X6_129 (pc := 73) hc rfl rfl dX6_largestIsland_73 ?_
              rw [hs38]
              refine z_goto (pc := 76) (tgt := 80) hc (by decide) dX6_largestIsland_76 ?_
              refine z_ist (pc := 80) (lv' := [(2, zI ((frM (zrep (rgR true 1 gLg) i11 (snM M, ((0 : Int), (-6 : Int)))).1 ((i11 : Nat) : Int) true 1 144) 38 12)), (1, zI (100 * (((i11 : Nat) : Int) / (zrep (rgR true 1 gLg) i11 (snM M, ((0 : Int), (-6 : Int)))).1 39 1) + ((i11 : Nat) : Int) % (zrep (rgR true 1 gLg) i11 (snM M, ((0 : Int), (-6 : Int)))).1 39 1)), (3, zI ((i11 : Nat) : Int)), (0, zR 38)]) hc rfl (by decide) dX6_largestIsland_80 ?_
              refine z_iinc (pc := 81) (lv' := [(3, zI (((i11 : Nat) : Int) + 1)), (2, zI ((frM (zrep (rgR true 1 gLg) i11 (snM M, ((0 : Int), (-6 : Int)))).1 ((i11 : Nat) : Int) true 1 144) 38 12)), (1, zI (100 * (((i11 : Nat) : Int) / (zrep (rgR true 1 gLg) i11 (snM M, ((0 : Int), (-6 : Int)))).1 39 1) + ((i11 : Nat) : Int) % (zrep (rgR true 1 gLg) i11 (snM M, ((0 : Int), (-6 : Int)))).1 39 1)), (0, zR 38)]) hc 2 rfl rfl (by decide) dX6_largestIsland_81 ?_
              refine z_goto (pc := 84) (tgt := 11) hc (by decide) dX6_largestIsland_84 ?_
              exact zJW_eq (by rw [zrep_succ]; first | (rw [rgR_n1 h24]; rfl) | (rw [rgR_n2 h33]; rfl) | (exfalso; omega) | (rw [rgR_y h24 h33]; simp only [gLg]; rw [if_neg (by omega)]; rfl) | (rw [rgR_y h24 h33]; simp only [gLg]; rw [if_pos (by omega)]; rfl)) rfl (by rw [zrep_succ]; first | (rw [rgR_n1 h24]; done) | (rw [rgR_n2 h33]; done) | (rw [rgR_y h24 h33]; done)) ih11

set_option maxRecDepth 100000 in
set_option maxHeartbeats 4000000 in
theorem ct_X6_fill (M : Mem) (hR : RI M) (r : Int) (hb_r : -2147483648 ≤ r ∧ r < 2147483648) (c : Int) (hb_c : -2147483648 ≤ c ∧ c < 2147483648) (b : Bool)  : zCt yX6_fill KX6_fill [zR 38, zI r, zI c, zI (zbz b)] M (fun zv zM => zv = some (if inT (tsZ (M 39)) r c = true then (zrep (ffR (frM (recR M) (M 39 1 * r + c) (decide (M 39 (3 + (M 39 1 * r + c)) = 1)) 2 144) b) ((frM (recR M) (M 39 1 * r + c) (decide (M 39 (3 + (M 39 1 * r + c)) = 1)) 2 144) 38 12).toNat ((frM (recR M) (M 39 1 * r + c) (decide (M 39 (3 + (M 39 1 * r + c)) = 1)) 2 144), 0)).2 else -1) ∧ zM = (if inT (tsZ (M 39)) r c = true then (zrep (ffR (frM (recR M) (M 39 1 * r + c) (decide (M 39 (3 + (M 39 1 * r + c)) = 1)) 2 144) b) ((frM (recR M) (M 39 1 * r + c) (decide (M 39 (3 + (M 39 1 * r + c)) = 1)) 2 144) 38 12).toNat ((frM (recR M) (M 39 1 * r + c) (decide (M 39 (3 + (M 39 1 * r + c)) = 1)) 2 144), 0)).1 else M)) := by
  obtain ⟨hU, hZ, hO, hH⟩ := id hR
  obtain ⟨hs1, hs2, hs3, hs4, hs5, hs6, hs7⟩ := id hZ
  have hw9 := zhw hs1 hs2 hs3 hs4
  have hR1 := recR_RI hR
  obtain ⟨hU1, hZ1, hO1, hH1⟩ := id hR1
  have e39 : recR M 39 = M 39 := recR_off (by decide) (by decide)
  refine z_met (by decide) rfl (Nat.le_of_ble_eq_true rfl) (fun X hc he => ?_)
  show zJW X 0 [(0, zR 38), (1, zI r), (2, zI c), (3, zI (zbz b))] [] M
  refine z_ald (pc := 0) hc 0 rfl dX6_fill_0 ?_
  refine z_ild (pc := 1) hc 1 rfl dX6_fill_1 ?_
  refine z_ild (pc := 2) hc 2 rfl dX6_fill_2 ?_
  refine kc_X6_90 (pc := 3) hc rfl (zfitX (by decide) rfl rfl) rfl (Nat.le_of_ble_eq_true rfl) (ct_X6_isTile M (by assumption) r (by omega) c (by omega)) dX6_fill_3 ?_
  refine z_bne (pc := 6) (tgt := 11) hc (by decide) dX6_fill_6 (fun h6 => ?_) (fun h6 => ?_)
  · show zJW X 11 [(0, zR 38), (1, zI r), (2, zI c), (3, zI (zbz b))] [] M
    have h6' := h6
    rw [inT_Z] at h6'
    have h6' := of_decide_eq_true h6'
    have ix6 := zix (h := M 39 0) (w := M 39 1) ⟨h6'.1, h6'.2.1⟩ ⟨h6'.2.2.1, h6'.2.2.2⟩
    have ixk6 : 0 ≤ M 39 1 * r + c ∧ M 39 1 * r + c < M 39 0 * M 39 1 := ⟨ix6.1, ix6.2.1⟩
    refine z_ald (pc := 11) hc 0 rfl dX6_fill_11 ?_
    refine kc_X6_77 (pc := 12) hc rfl (zfitX (by decide) rfl rfl) rfl (Nat.le_of_ble_eq_true rfl) (ct_X6_record M (by assumption) ) dX6_fill_12 ?_
    refine z_ald (pc := 15) hc 0 rfl dX6_fill_15 ?_
    refine z_ald (pc := 16) hc 0 rfl dX6_fill_16 ?_
    refine z_ild (pc := 17) hc 1 rfl dX6_fill_17 ?_
    refine z_ild (pc := 18) hc 2 rfl dX6_fill_18 ?_
    refine kc_X6_94 (pc := 19) hc rfl (zfitX (by decide) rfl rfl) rfl (Nat.le_of_ble_eq_true rfl) (ct_X6_at (recR M) r c) dX6_fill_19 ?_
    rw [e39]
    refine z_iconst (pc := 22) hc 0 dX6_fill_22 ?_
    have hk1 : 0 ≤ (M 39 1 * r + c) ∧ (M 39 1 * r + c) < recR M 39 0 * recR M 39 1 := by rw [e39]; exact ixk6
    refine kc_X6_132 (pc := 23) hc rfl (zfitX (by decide) rfl rfl) rfl (Nat.le_of_ble_eq_true rfl) (ct_X6_frf (recR M) (by assumption) (M 39 1 * r + c) (by first | assumption | omega)) dX6_fill_23 ?_
    rw [e39]
    have hf := frM_ok (M := recR M) (e := 2) (l := (decide (M 39 (3 + (M 39 1 * r + c)) = 1))) hZ1 hk1 (by rw [e39])
    have hfQ := frQ_of hf
    have hf9 : (frM (recR M) (M 39 1 * r + c) (decide (M 39 (3 + (M 39 1 * r + c)) = 1)) 2 144) 39 = M 39 := (srI_39 hf).trans e39
    have hfZ : zRf ((frM (recR M) (M 39 1 * r + c) (decide (M 39 (3 + (M 39 1 * r + c)) = 1)) 2 144) 39) := by rw [hf9]; exact hZ
    obtain ⟨hfq1, hfq2, hfq3⟩ := id hfQ
    refine z_iconst (pc := 26) hc 0 dX6_fill_26 ?_
    refine z_isw (pc := 27) (lv' := [(4, zI 0), (0, zR 38), (1, zI r), (2, zI c), (3, zI (zbz b))]) hc rfl (by decide) dX6_fill_27 ?_
    refine z_iconst (pc := 29) hc 0 dX6_fill_29 ?_
    refine z_isw (pc := 30) (lv' := [(5, zI 0), (4, zI 0), (0, zR 38), (1, zI r), (2, zI c), (3, zI (zbz b))]) hc rfl (by decide) dX6_fill_30 ?_
    refine z_for (((frM (recR M) (M 39 1 * r + c) (decide (M 39 (3 + (M 39 1 * r + c)) = 1)) 2 144) 38 12).toNat) (fun i32 => [(5, zI ((i32 : Nat) : Int)), (4, zI ((zrep (ffR (frM (recR M) (M 39 1 * r + c) (decide (M 39 (3 + (M 39 1 * r + c)) = 1)) 2 144) b) i32 ((frM (recR M) (M 39 1 * r + c) (decide (M 39 (3 + (M 39 1 * r + c)) = 1)) 2 144), 0)).2)), (0, zR 38), (1, zI r), (2, zI c), (3, zI (zbz b))]) (fun i32 => (zrep (ffR (frM (recR M) (M 39 1 * r + c) (decide (M 39 (3 + (M 39 1 * r + c)) = 1)) 2 144) b) i32 ((frM (recR M) (M 39 1 * r + c) (decide (M 39 (3 + (M 39 1 * r + c)) = 1)) 2 144), 0)).1) (by rfl) (by rfl) ?_ (fun i32 hi32 ih32 => ?_)
    · show zJW X 32 [(5, zI (((((frM (recR M) (M 39 1 * r + c) (decide (M 39 (3 + (M 39 1 * r + c)) = 1)) 2 144) 38 12).toNat) : Nat) : Int)), (4, zI ((zrep (ffR (frM (recR M) (M 39 1 * r + c) (decide (M 39 (3 + (M 39 1 * r + c)) = 1)) 2 144) b) (((frM (recR M) (M 39 1 * r + c) (decide (M 39 (3 + (M 39 1 * r + c)) = 1)) 2 144) 38 12).toNat) ((frM (recR M) (M 39 1 * r + c) (decide (M 39 (3 + (M 39 1 * r + c)) = 1)) 2 144), 0)).2)), (0, zR 38), (1, zI r), (2, zI c), (3, zI (zbz b))] [] ((zrep (ffR (frM (recR M) (M 39 1 * r + c) (decide (M 39 (3 + (M 39 1 * r + c)) = 1)) 2 144) b) (((frM (recR M) (M 39 1 * r + c) (decide (M 39 (3 + (M 39 1 * r + c)) = 1)) 2 144) 38 12).toNat) ((frM (recR M) (M 39 1 * r + c) (decide (M 39 (3 + (M 39 1 * r + c)) = 1)) 2 144), 0)).1)
      have hx := ffR_P (b := b) hfZ hfQ (n := ((frM (recR M) (M 39 1 * r + c) (decide (M 39 (3 + (M 39 1 * r + c)) = 1)) 2 144) 38 12).toNat) (Nat.le_refl _)
      have hx38 := congrFun (hx.2.1 38 (by decide)) 12
      refine z_ilw (pc := 32) hc 0 rfl dX6_fill_32 ?_
      refine z_ald (pc := 34) hc 2 rfl dX6_fill_34 ?_
      refine fg_X6_129 (pc := 35) hc rfl rfl dX6_fill_35 ?_
      refine z_cge (pc := 38) (tgt := 72) hc (by omega) (by decide) dX6_fill_38 (fun h38 => ?_) (fun h38 => ?_)
      · show zJW X 72 [(5, zI (((((frM (recR M) (M 39 1 * r + c) (decide (M 39 (3 + (M 39 1 * r + c)) = 1)) 2 144) 38 12).toNat) : Nat) : Int)), (4, zI ((zrep (ffR (frM (recR M) (M 39 1 * r + c) (decide (M 39 (3 + (M 39 1 * r + c)) = 1)) 2 144) b) (((frM (recR M) (M 39 1 * r + c) (decide (M 39 (3 + (M 39 1 * r + c)) = 1)) 2 144) 38 12).toNat) ((frM (recR M) (M 39 1 * r + c) (decide (M 39 (3 + (M 39 1 * r + c)) = 1)) 2 144), 0)).2)), (0, zR 38), (1, zI r), (2, zI c), (3, zI (zbz b))] [] ((zrep (ffR (frM (recR M) (M 39 1 * r + c) (decide (M 39 (3 + (M 39 1 * r + c)) = 1)) 2 144) b) (((frM (recR M) (M 39 1 * r + c) (decide (M 39 (3 + (M 39 1 * r + c)) = 1)) 2 144) 38 12).toNat) ((frM (recR M) (M 39 1 * r + c) (decide (M 39 (3 + (M 39 1 * r + c)) = 1)) 2 144), 0)).1)
        refine z_ilw (pc := 72) hc 1 rfl dX6_fill_72 ?_
        exact z_iret (pc := 74) hc he rfl dX6_fill_74 (⟨by rw [if_pos h6], by rw [if_pos h6]⟩)
      · exfalso; omega
    · show zJW X 32 [(5, zI ((i32 : Nat) : Int)), (4, zI ((zrep (ffR (frM (recR M) (M 39 1 * r + c) (decide (M 39 (3 + (M 39 1 * r + c)) = 1)) 2 144) b) i32 ((frM (recR M) (M 39 1 * r + c) (decide (M 39 (3 + (M 39 1 * r + c)) = 1)) 2 144), 0)).2)), (0, zR 38), (1, zI r), (2, zI c), (3, zI (zbz b))] [] ((zrep (ffR (frM (recR M) (M 39 1 * r + c) (decide (M 39 (3 + (M 39 1 * r + c)) = 1)) 2 144) b) i32 ((frM (recR M) (M 39 1 * r + c) (decide (M 39 (3 + (M 39 1 * r + c)) = 1)) 2 144), 0)).1)
      have hi := ffR_P (b := b) hfZ hfQ (n := i32) (by omega)
      have hi38 := congrFun (hi.2.1 38 (by decide)) 12
      have hi46 : (zrep (ffR (frM (recR M) (M 39 1 * r + c) (decide (M 39 (3 + (M 39 1 * r + c)) = 1)) 2 144) b) i32 ((frM (recR M) (M 39 1 * r + c) (decide (M 39 (3 + (M 39 1 * r + c)) = 1)) 2 144), 0)).1 46 = (frM (recR M) (M 39 1 * r + c) (decide (M 39 (3 + (M 39 1 * r + c)) = 1)) 2 144) 46 := hi.2.1 46 (by decide)
      have hiZ := hi.1
      have hg46 := hfq3 (i32 : Int) (by omega) (by omega)
      have hg9 : (frM (recR M) (M 39 1 * r + c) (decide (M 39 (3 + (M 39 1 * r + c)) = 1)) 2 144) 39 0 * (frM (recR M) (M 39 1 * r + c) (decide (M 39 (3 + (M 39 1 * r + c)) = 1)) 2 144) 39 1 = M 39 0 * M 39 1 := by rw [hf9]
      refine z_ilw (pc := 32) hc 0 rfl dX6_fill_32 ?_
      refine z_ald (pc := 34) hc 2 rfl dX6_fill_34 ?_
      refine fg_X6_129 (pc := 35) hc rfl rfl dX6_fill_35 ?_
      refine z_cge (pc := 38) (tgt := 72) hc (by omega) (by decide) dX6_fill_38 (fun h38 => ?_) (fun h38 => ?_)
      · exfalso; omega
      · show zJW X 41 [(5, zI ((i32 : Nat) : Int)), (4, zI ((zrep (ffR (frM (recR M) (M 39 1 * r + c) (decide (M 39 (3 + (M 39 1 * r + c)) = 1)) 2 144) b) i32 ((frM (recR M) (M 39 1 * r + c) (decide (M 39 (3 + (M 39 1 * r + c)) = 1)) 2 144), 0)).2)), (0, zR 38), (1, zI r), (2, zI c), (3, zI (zbz b))] [] ((zrep (ffR (frM (recR M) (M 39 1 * r + c) (decide (M 39 (3 + (M 39 1 * r + c)) = 1)) 2 144) b) i32 ((frM (recR M) (M 39 1 * r + c) (decide (M 39 (3 + (M 39 1 * r + c)) = 1)) 2 144), 0)).1)
        refine z_ilw (pc := 41) hc 1 rfl dX6_fill_41 ?_
        refine z_ald (pc := 43) hc 2 rfl dX6_fill_43 ?_
        refine z_ald (pc := 44) hc 2 rfl dX6_fill_44 ?_
        refine fg_X6_32 (pc := 45) hc rfl rfl dX6_fill_45 ?_
        refine z_ilw (pc := 48) hc 0 rfl dX6_fill_48 ?_
        skip
        refine z_iald (pc := 50) hc rfl rfl rfl (by decide) (by omega) dX6_fill_50 ?_
        rw [hi46]
        refine z_ild (pc := 51) hc 5 rfl dX6_fill_51 ?_
        refine kc_X6_125 (pc := 52) hc rfl (zfitX (by decide) rfl rfl) rfl (Nat.le_of_ble_eq_true rfl) (ct_X6_becomes ((zrep (ffR (frM (recR M) (M 39 1 * r + c) (decide (M 39 (3 + (M 39 1 * r + c)) = 1)) 2 144) b) i32 ((frM (recR M) (M 39 1 * r + c) (decide (M 39 (3 + (M 39 1 * r + c)) = 1)) 2 144), 0)).1) (by assumption) ((frM (recR M) (M 39 1 * r + c) (decide (M 39 (3 + (M 39 1 * r + c)) = 1)) 2 144) 46 ((i32 : Nat) : Int)) (by omega) b) dX6_fill_52 ?_
        refine z_beq (pc := 55) (tgt := 62) hc (by decide) dX6_fill_55 (fun h55 => ?_) (fun h55 => ?_)
        · show zJW X 62 [(5, zI ((i32 : Nat) : Int)), (4, zI ((zrep (ffR (frM (recR M) (M 39 1 * r + c) (decide (M 39 (3 + (M 39 1 * r + c)) = 1)) 2 144) b) i32 ((frM (recR M) (M 39 1 * r + c) (decide (M 39 (3 + (M 39 1 * r + c)) = 1)) 2 144), 0)).2)), (0, zR 38), (1, zI r), (2, zI c), (3, zI (zbz b))] [zI ((zrep (ffR (frM (recR M) (M 39 1 * r + c) (decide (M 39 (3 + (M 39 1 * r + c)) = 1)) 2 144) b) i32 ((frM (recR M) (M 39 1 * r + c) (decide (M 39 (3 + (M 39 1 * r + c)) = 1)) 2 144), 0)).2)] (becR ((zrep (ffR (frM (recR M) (M 39 1 * r + c) (decide (M 39 (3 + (M 39 1 * r + c)) = 1)) 2 144) b) i32 ((frM (recR M) (M 39 1 * r + c) (decide (M 39 (3 + (M 39 1 * r + c)) = 1)) 2 144), 0)).1) ((frM (recR M) (M 39 1 * r + c) (decide (M 39 (3 + (M 39 1 * r + c)) = 1)) 2 144) 46 ((i32 : Nat) : Int)) b)
          refine z_iconst (pc := 62) hc 0 dX6_fill_62 ?_
          refine z_iadd (pc := 63) hc dX6_fill_63 ?_
          refine z_isw (pc := 64) (lv' := [(4, zI ((zrep (ffR (frM (recR M) (M 39 1 * r + c) (decide (M 39 (3 + (M 39 1 * r + c)) = 1)) 2 144) b) i32 ((frM (recR M) (M 39 1 * r + c) (decide (M 39 (3 + (M 39 1 * r + c)) = 1)) 2 144), 0)).2 + 0)), (5, zI ((i32 : Nat) : Int)), (0, zR 38), (1, zI r), (2, zI c), (3, zI (zbz b))]) hc rfl (by decide) dX6_fill_64 ?_
          refine z_iinc (pc := 66) (lv' := [(5, zI (((i32 : Nat) : Int) + 1)), (4, zI ((zrep (ffR (frM (recR M) (M 39 1 * r + c) (decide (M 39 (3 + (M 39 1 * r + c)) = 1)) 2 144) b) i32 ((frM (recR M) (M 39 1 * r + c) (decide (M 39 (3 + (M 39 1 * r + c)) = 1)) 2 144), 0)).2 + 0)), (0, zR 38), (1, zI r), (2, zI c), (3, zI (zbz b))]) hc 1 rfl rfl (by decide) dX6_fill_66 ?_
          refine z_goto (pc := 69) (tgt := 32) hc (by decide) dX6_fill_69 ?_
          exact zJW_eq (by rw [zrep_succ]; first | (rw [ffR_t h55]; rfl) | (rw [ffR_f h55, Int.add_zero]; rfl) | (rw [ffR_f h55]; simp)) rfl (by rw [zrep_succ]; first | (rw [ffR_t h55]; done) | (rw [ffR_f h55]; done)) ih32
        · show zJW X 58 [(5, zI ((i32 : Nat) : Int)), (4, zI ((zrep (ffR (frM (recR M) (M 39 1 * r + c) (decide (M 39 (3 + (M 39 1 * r + c)) = 1)) 2 144) b) i32 ((frM (recR M) (M 39 1 * r + c) (decide (M 39 (3 + (M 39 1 * r + c)) = 1)) 2 144), 0)).2)), (0, zR 38), (1, zI r), (2, zI c), (3, zI (zbz b))] [zI ((zrep (ffR (frM (recR M) (M 39 1 * r + c) (decide (M 39 (3 + (M 39 1 * r + c)) = 1)) 2 144) b) i32 ((frM (recR M) (M 39 1 * r + c) (decide (M 39 (3 + (M 39 1 * r + c)) = 1)) 2 144), 0)).2)] (becR ((zrep (ffR (frM (recR M) (M 39 1 * r + c) (decide (M 39 (3 + (M 39 1 * r + c)) = 1)) 2 144) b) i32 ((frM (recR M) (M 39 1 * r + c) (decide (M 39 (3 + (M 39 1 * r + c)) = 1)) 2 144), 0)).1) ((frM (recR M) (M 39 1 * r + c) (decide (M 39 (3 + (M 39 1 * r + c)) = 1)) 2 144) 46 ((i32 : Nat) : Int)) b)
          refine z_iconst (pc := 58) hc 1 dX6_fill_58 ?_
          refine z_goto (pc := 59) (tgt := 63) hc (by decide) dX6_fill_59 ?_
          refine z_iadd (pc := 63) hc dX6_fill_63 ?_
          refine z_isw (pc := 64) (lv' := [(4, zI ((zrep (ffR (frM (recR M) (M 39 1 * r + c) (decide (M 39 (3 + (M 39 1 * r + c)) = 1)) 2 144) b) i32 ((frM (recR M) (M 39 1 * r + c) (decide (M 39 (3 + (M 39 1 * r + c)) = 1)) 2 144), 0)).2 + 1)), (5, zI ((i32 : Nat) : Int)), (0, zR 38), (1, zI r), (2, zI c), (3, zI (zbz b))]) hc rfl (by decide) dX6_fill_64 ?_
          refine z_iinc (pc := 66) (lv' := [(5, zI (((i32 : Nat) : Int) + 1)), (4, zI ((zrep (ffR (frM (recR M) (M 39 1 * r + c) (decide (M 39 (3 + (M 39 1 * r + c)) = 1)) 2 144) b) i32 ((frM (recR M) (M 39 1 * r + c) (decide (M 39 (3 + (M 39 1 * r + c)) = 1)) 2 144), 0)).2 + 1)), (0, zR 38), (1, zI r), (2, zI c), (3, zI (zbz b))]) hc 1 rfl rfl (by decide) dX6_fill_66 ?_
          refine z_goto (pc := 69) (tgt := 32) hc (by decide) dX6_fill_69 ?_
          exact zJW_eq (by rw [zrep_succ]; first | (rw [ffR_t h55]; rfl) | (rw [ffR_f h55, Int.add_zero]; rfl) | (rw [ffR_f h55]; simp)) rfl (by rw [zrep_succ]; first | (rw [ffR_t h55]; done) | (rw [ffR_f h55]; done)) ih32
  · show zJW X 9 [(0, zR 38), (1, zI r), (2, zI c), (3, zI (zbz b))] [] M
    refine z_iconst (pc := 9) hc (-1) dX6_fill_9 ?_
    exact z_iret (pc := 10) hc he rfl dX6_fill_10 (⟨by rw [h6]; rfl, by rw [h6]; rfl⟩)
