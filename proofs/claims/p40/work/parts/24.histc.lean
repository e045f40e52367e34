set_option maxRecDepth 100000 in
set_option maxHeartbeats 4000000 in
theorem ct_X0_discardOldest (M : Mem) (hH : HsX M) : zCt yX0_discardOldest KX0_discardOldest [zR 31] M (fun zv zM => zv = none ∧ zM = disM M) := by
  obtain ⟨hh1, hh2, hh3, hh4⟩ := id hH
  have hp0 := hh3 0 (by omega) (by omega)
  refine z_met (by decide) rfl (Nat.le_of_ble_eq_true rfl) (fun X hc he => ?_)
  show zJW X 0 [(0, zR 31)] [] M
  refine z_ald (pc := 0) hc 0 rfl dX0_discardOldest_0 ?_
  refine fg_X0_11 (pc := 1) hc rfl rfl dX0_discardOldest_1 ?_
  refine z_iconst (pc := 4) hc 0 dX0_discardOldest_4 ?_
  refine z_aald (pc := 5) hc rfl rfl rfl (by decide) (by omega) dX0_discardOldest_5 ?_
  refine z_ast (pc := 6) (lv' := [(1, zR ((M 32 0).toNat)), (0, zR 31)]) hc rfl (by decide) dX0_discardOldest_6 ?_
  refine z_iconst (pc := 7) hc 1 dX0_discardOldest_7 ?_
  refine z_ist (pc := 8) (lv' := [(2, zI 1), (1, zR ((M 32 0).toNat)), (0, zR 31)]) hc rfl (by decide) dX0_discardOldest_8 ?_
  refine z_for 4 (fun i9 => [(2, zI (((i9 : Nat) : Int) + 1)), (1, zR ((M 32 0).toNat)), (0, zR 31)]) (fun i9 => (disI M ((i9 : Nat) : Int))) (by rfl) (by exact disI_0) ?_ (fun i9 hi9 ih9 => ?_)
  · show zJW X 9 [(2, zI (4 + 1)), (1, zR ((M 32 0).toNat)), (0, zR 31)] [] (disI M 4)
    refine z_ild (pc := 9) hc 0 rfl dX0_discardOldest_9 ?_
    refine z_iconst (pc := 10) hc 5 dX0_discardOldest_10 ?_
    refine z_cge (pc := 11) (tgt := 34) hc (by omega) (by decide) dX0_discardOldest_11 (fun h11 => ?_) (fun h11 => ?_)
    · show zJW X 34 [(2, zI (4 + 1)), (1, zR ((M 32 0).toNat)), (0, zR 31)] [] (disI M 4)
      refine z_ald (pc := 34) hc 2 rfl dX0_discardOldest_34 ?_
      refine fg_X0_11 (pc := 35) hc rfl rfl dX0_discardOldest_35 ?_
      refine z_iconst (pc := 38) hc 4 dX0_discardOldest_38 ?_
      refine z_ald (pc := 39) hc 1 rfl dX0_discardOldest_39 ?_
      refine z_aast (pc := 40) hc rfl (decide_eq_true (by omega)) (ztm_st (by omega)) rfl rfl (by decide) (by omega) dX0_discardOldest_40 ?_
      refine z_ald (pc := 41) hc 2 rfl dX0_discardOldest_41 ?_
      refine z_iconst (pc := 42) hc 4 dX0_discardOldest_42 ?_
      refine fp_X0_17 (pc := 43) hc rfl rfl dX0_discardOldest_43 ?_
      exact z_vret (pc := 46) hc he rfl dX0_discardOldest_46 (⟨rfl, disM_of (Int.toNat_of_nonneg (by omega))⟩)
    · exfalso; omega
  · show zJW X 9 [(2, zI (((i9 : Nat) : Int) + 1)), (1, zR ((M 32 0).toNat)), (0, zR 31)] [] (disI M ((i9 : Nat) : Int))
    have hpi := hh3 (((i9 : Nat) : Int) + 1) (by omega) (by omega)
    refine z_ild (pc := 9) hc 0 rfl dX0_discardOldest_9 ?_
    refine z_iconst (pc := 10) hc 5 dX0_discardOldest_10 ?_
    refine z_cge (pc := 11) (tgt := 34) hc (by omega) (by decide) dX0_discardOldest_11 (fun h11 => ?_) (fun h11 => ?_)
    · exfalso; omega
    · show zJW X 14 [(2, zI (((i9 : Nat) : Int) + 1)), (1, zR ((M 32 0).toNat)), (0, zR 31)] [] (disI M ((i9 : Nat) : Int))
      refine z_ald (pc := 14) hc 2 rfl dX0_discardOldest_14 ?_
      refine fg_X0_11 (pc := 15) hc rfl rfl dX0_discardOldest_15 ?_
      refine z_ild (pc := 18) hc 0 rfl dX0_discardOldest_18 ?_
      refine z_iconst (pc := 19) hc 1 dX0_discardOldest_19 ?_
      refine z_isub (pc := 20) hc dX0_discardOldest_20 ?_
      refine z_ald (pc := 21) hc 2 rfl dX0_discardOldest_21 ?_
      refine fg_X0_11 (pc := 22) hc rfl rfl dX0_discardOldest_22 ?_
      refine z_ild (pc := 25) hc 0 rfl dX0_discardOldest_25 ?_
      refine z_aald (pc := 26) hc rfl rfl rfl (by decide) (by omega) dX0_discardOldest_26 ?_
      rw [disI_at (by omega)]
      refine z_aast (pc := 27) hc rfl (decide_eq_true (by omega)) (ztm_st (by omega)) rfl rfl (by decide) (by omega) dX0_discardOldest_27 ?_
      refine z_iinc (pc := 28) (lv' := [(2, zI ((((i9 : Nat) : Int) + 1) + 1)), (1, zR ((M 32 0).toNat)), (0, zR 31)]) hc 0 rfl rfl (by decide) dX0_discardOldest_28 ?_
      refine z_goto (pc := 31) (tgt := 9) hc (by decide) dX0_discardOldest_31 ?_
      exact zJW_eq (by rfl) rfl (by exact disI_s i9 (Int.toNat_of_nonneg (by omega))) ih9

set_option maxRecDepth 100000 in
set_option maxHeartbeats 4000000 in
theorem ct_X0_record (M : Mem) (hH : HsX M) (hS : zSk M 0) : zCt yX0_record KX0_record [zR 31, zR 0] M (fun zv zM => zv = none ∧ zM = recM M) := by
  obtain ⟨hh1, hh2, hh3, hh4⟩ := id hH
  refine z_met (by decide) rfl (Nat.le_of_ble_eq_true rfl) (fun X hc he => ?_)
  show zJW X 0 [(0, zR 31), (1, zR 0)] [] M
  obtain ⟨M1, hM1⟩ : ∃ q : Mem, q = recA M := ⟨_, rfl⟩
  obtain ⟨⟨hg1, hg2, hg3, hg4⟩, hg5⟩ := recA_H hH
  rw [← hM1] at hg1 hg2 hg3 hg4 hg5
  have hS1 : zSk M1 0 := by rw [hM1]; exact zSk_congr (recA_off (by decide) (by decide)) (recA_off (by decide) (by decide)) (recA_off (by decide) (by decide)) hS
  have hpj := hg3 (M1 31 1) hg1 hg5
  refine z_ald (pc := 0) hc 0 rfl dX0_record_0 ?_
  have hJ12 : zJW X 12 [(0, zR 31), (1, zR 0)] [] M1 := by
    refine z_ald (pc := 12) hc 0 rfl dX0_record_12 ?_
    refine fg_X0_17 (pc := 13) hc rfl rfl dX0_record_13 ?_
    refine z_ilt (pc := 16) (tgt := 62) hc (by omega) (by decide) dX0_record_16 (fun h16 => ?_) (fun h16 => ?_)
    · exfalso; omega
    · show zJW X 19 [(0, zR 31), (1, zR 0)] [] M1
      refine z_ald (pc := 19) hc 0 rfl dX0_record_19 ?_
      refine fg_X0_17 (pc := 20) hc rfl rfl dX0_record_20 ?_
      refine z_iconst (pc := 23) hc 5 dX0_record_23 ?_
      refine z_cge (pc := 24) (tgt := 62) hc (by omega) (by decide) dX0_record_24 (fun h24 => ?_) (fun h24 => ?_)
      · exfalso; omega
      · show zJW X 27 [(0, zR 31), (1, zR 0)] [] M1
        refine z_ald (pc := 27) hc 0 rfl dX0_record_27 ?_
        refine fg_X0_11 (pc := 28) hc rfl rfl dX0_record_28 ?_
        refine z_ald (pc := 31) hc 0 rfl dX0_record_31 ?_
        refine fg_X0_17 (pc := 32) hc rfl rfl dX0_record_32 ?_
        refine z_aald (pc := 35) hc rfl rfl rfl (by decide) (by omega) dX0_record_35 ?_
        refine z_inull (pc := 36) hc dX0_record_36 ?_
        refine z_ald (pc := 39) hc 0 rfl dX0_record_39 ?_
        refine fg_X0_11 (pc := 40) hc rfl rfl dX0_record_40 ?_
        refine z_ald (pc := 43) hc 0 rfl dX0_record_43 ?_
        refine fg_X0_17 (pc := 44) hc rfl rfl dX0_record_44 ?_
        refine z_aald (pc := 47) hc rfl rfl rfl (by decide) (by omega) dX0_record_47 ?_
        refine z_ald (pc := 48) hc 1 rfl dX0_record_48 ?_
        refine kc_X0_25 (pc := 49) hc rfl (zfitX (by decide) rfl rfl) (decide_eq_true (by omega)) (by omega) (Nat.le_of_ble_eq_true rfl) (ct_X3_copyFrom M1 ((M1 32 (M1 31 1)).toNat) 0 (by omega) (by omega) (by omega) (by assumption)) dX0_record_49 ?_
        refine z_ald (pc := 52) hc 0 rfl dX0_record_52 ?_
        refine z_dup (pc := 53) hc rfl dX0_record_53 ?_
        refine fg_X0_17 (pc := 54) hc rfl rfl dX0_record_54 ?_
        refine z_iconst (pc := 57) hc 1 dX0_record_57 ?_
        refine z_iadd (pc := 58) hc dX0_record_58 ?_
        rw [copM_off (by omega) (by omega) (by omega)]
        refine fp_X0_17 (pc := 59) hc rfl rfl dX0_record_59 ?_
        exact z_vret (pc := 62) hc he rfl dX0_record_62 (by refine ⟨rfl, ?_⟩; rw [recM, ← hM1])
  refine fg_X0_17 (pc := 1) hc rfl rfl dX0_record_1 ?_
  refine z_iconst (pc := 4) hc 5 dX0_record_4 ?_
  refine z_clt (pc := 5) (tgt := 12) hc (by omega) (by decide) dX0_record_5 (fun h5 => ?_) (fun h5 => ?_)
  · show zJW X 12 [(0, zR 31), (1, zR 0)] [] M
    exact zJW_eq (by rfl) (by rfl) (by rw [hM1, recA]; first | rw [if_neg (by omega)] | rw [if_pos (by omega)]) hJ12
  · show zJW X 8 [(0, zR 31), (1, zR 0)] [] M
    refine z_ald (pc := 8) hc 0 rfl dX0_record_8 ?_
    refine kc_X0_22 (pc := 9) hc rfl (zfitX (by decide) rfl rfl) rfl (Nat.le_of_ble_eq_true rfl) (ct_X0_discardOldest M (by assumption) ) dX0_record_9 ?_
    exact zJW_eq (by rfl) (by rfl) (by rw [hM1, recA]; first | rw [if_neg (by omega)] | rw [if_pos (by omega)]) hJ12
