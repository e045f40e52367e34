theorem ep_bd {f : Int → Int} {n : Nat} : -6 ≤ epT f n ∧ epT f n ≤ n := by
  by_cases e : zrep (epE f) n (-6) = -6
  · rw [(ep_end e).1]
    split <;> omega
  · obtain ⟨i, h1, h2, h3⟩ := ep_ex e
    rw [(ep_at h1 h2 h3).1]
    omega
set_option maxRecDepth 100000 in
set_option maxHeartbeats 4000000 in
theorem ct_X6_read (M : Mem) (hR : RI M) (hL : 0 ≤ M 38 6 ∧ M 38 6 ≤ 80) (hC : ∀ z : Int, 0 ≤ z → z < 80 → 0 ≤ M 42 z ∧ M 42 z < 128) (h52 : ∀ z : Int, 0 ≤ z → z < 144 → M 52 z = 0 ∨ M 52 z = 1)  : zCt yX6_read KX6_read [zR 38] M (fun zv zM => zv = some (if epT (M 42) (M 38 6).toNat = -6 then lnT (tsZ (rdM M 39)) else -5) ∧ zM = (if epT (M 42) (M 38 6).toNat = -6 then rdM M else erM M)) := by
  have hE := prI_RI erM_P hR
  have hW := rwR_RI hE
  have hWH := hW.2.2.2
  have hbz := ep_bd (f := M 42) (n := (M 38 6).toNat)
  refine z_met (by decide) rfl (Nat.le_of_ble_eq_true rfl) (fun X hc he => ?_)
  show zJW X 0 [(0, zR 38)] [] M
  refine z_ald (pc := 0) hc 0 rfl dX6_read_0 ?_
  refine kc_X6_203 (pc := 1) hc rfl (zfitX (by decide) rfl rfl) rfl (Nat.le_of_ble_eq_true rfl) (ct_X6_errorPosition M (by assumption) (by assumption) ) dX6_read_1 ?_
  refine z_bipush (pc := 4) hc (-6) (by decide) dX6_read_4 ?_
  refine z_ceq (pc := 6) (tgt := 12) hc (by omega) (by decide) dX6_read_6 (fun h6 => ?_) (fun h6 => ?_)
  · show zJW X 12 [(0, zR 38)] [] (erM M)
    have bb := erM_bd h6
    have hw := zhw (h := (erM M 38 18 + 1)) (w := (erM M 38 20)) (by omega) (by omega) (by omega) (by omega)
    have hnn : ((((erM M 38 18 + 1) * (erM M 38 20)).toNat : Nat) : Int) = (erM M 38 18 + 1) * (erM M 38 20) := Int.toNat_of_nonneg (by omega)
    have zz := zRf_rd hR h52 h6
    have b9 : rdB M 38 19 = (erM M 38 20) := rdB_19
    refine z_ald (pc := 12) hc 0 rfl dX6_read_12 ?_
    refine kc_X6_197 (pc := 13) hc rfl (zfitX (by decide) rfl rfl) rfl (Nat.le_of_ble_eq_true rfl) (ct_X6_endRow (erM M) (by first | assumption | omega)) dX6_read_13 ?_
    refine z_ald (pc := 16) hc 0 rfl dX6_read_16 ?_
    refine kc_X6_77 (pc := 17) hc rfl (zfitX (by decide) rfl rfl) rfl (Nat.le_of_ble_eq_true rfl) (ct_X6_record (rwR (erM M)) (by assumption) ) dX6_read_17 ?_
    refine z_ald (pc := 20) hc 0 rfl dX6_read_20 ?_
    refine fg_X6_7 (pc := 21) hc rfl rfl dX6_read_21 ?_
    refine z_iconst (pc := 24) hc 0 dX6_read_24 ?_
    refine z_ald (pc := 25) hc 0 rfl dX6_read_25 ?_
    refine fg_X6_179 (pc := 26) hc rfl rfl dX6_read_26 ?_
    rw [rdQ_18]
    refine z_iast (pc := 29) hc rfl rfl rfl (by decide) (by omega) dX6_read_29 ?_
    refine z_ald (pc := 30) hc 0 rfl dX6_read_30 ?_
    refine fg_X6_7 (pc := 31) hc rfl rfl dX6_read_31 ?_
    refine z_iconst (pc := 34) hc 1 dX6_read_34 ?_
    refine z_ald (pc := 35) hc 0 rfl dX6_read_35 ?_
    refine fg_X6_182 (pc := 36) hc rfl rfl dX6_read_36 ?_
    rw [show (zup (recR (rwR (erM M))) 39 0 (erM M 38 18 + 1)) 38 19 = (erM M 38 20) from (congrFun (zup_ne (by decide)) 19).trans rdQ_19]
    refine z_iast (pc := 39) hc rfl rfl rfl (by decide) (by omega) dX6_read_39 ?_
    refine z_ald (pc := 40) hc 0 rfl dX6_read_40 ?_
    refine kc_X6_58 (pc := 41) hc rfl (zfitX (by decide) rfl rfl) rfl (Nat.le_of_ble_eq_true rfl) (ct_X6_water (zup (zup (recR (rwR (erM M))) 39 0 (erM M 38 18 + 1)) 39 1 (erM M 38 20))) dX6_read_41 ?_
    show zJW X _ _ _ (rdB M)
    refine z_iconst (pc := 44) hc 0 dX6_read_44 ?_
    refine z_ist (pc := 45) (lv' := [(1, zI 0), (0, zR 38)]) hc rfl (by decide) dX6_read_45 ?_
    refine z_for (((erM M 38 18 + 1) * (erM M 38 20)).toNat) (fun i46 => [(1, zI ((i46 : Nat) : Int)), (0, zR 38)]) (fun i46 => (rcR (rdB M) ((i46 : Nat) : Int))) (by rfl) (by exact rcR_0) ?_ (fun i46 hi46 ih46 => ?_)
    · show zJW X 46 [(1, zI (((((erM M 38 18 + 1) * (erM M 38 20)).toNat) : Nat) : Int)), (0, zR 38)] [] (rcR (rdB M) (((((erM M 38 18 + 1) * (erM M 38 20)).toNat) : Nat) : Int))
      have f0 : (rcR (rdB M) ((((erM M 38 18 + 1) * (erM M 38 20)).toNat : Nat) : Int)) 39 0 = (erM M 38 18 + 1) := (rcR_lo (by omega)).trans rdB_0
      have f1 : (rcR (rdB M) ((((erM M 38 18 + 1) * (erM M 38 20)).toNat : Nat) : Int)) 39 1 = (erM M 38 20) := (rcR_lo (by omega)).trans rdB_1
      have f2 : (rcR (rdB M) ((((erM M 38 18 + 1) * (erM M 38 20)).toNat : Nat) : Int)) 39 0 * (rcR (rdB M) ((((erM M 38 18 + 1) * (erM M 38 20)).toNat : Nat) : Int)) 39 1 = (erM M 38 18 + 1) * (erM M 38 20) := by rw [f0, f1]
      refine z_ild (pc := 46) hc 0 rfl dX6_read_46 ?_
      refine z_ald (pc := 47) hc 1 rfl dX6_read_47 ?_
      refine kc_X6_116 (pc := 48) hc rfl (zfitX (by decide) rfl rfl) rfl (Nat.le_of_ble_eq_true rfl) (ct_X6_tiles (rcR (rdB M) (((((erM M 38 18 + 1) * (erM M 38 20)).toNat) : Nat) : Int))) dX6_read_48 ?_
      refine z_cge (pc := 51) (tgt := 89) hc (by omega) (by decide) dX6_read_51 (fun h51 => ?_) (fun h51 => ?_)
      · show zJW X 89 [(1, zI (((((erM M 38 18 + 1) * (erM M 38 20)).toNat) : Nat) : Int)), (0, zR 38)] [] (rcR (rdB M) (((((erM M 38 18 + 1) * (erM M 38 20)).toNat) : Nat) : Int))
        refine z_ald (pc := 89) hc 1 rfl dX6_read_89 ?_
        refine z_iconst (pc := 90) hc 0 dX6_read_90 ?_
        refine fp_X6_176 (pc := 91) hc rfl rfl dX6_read_91 ?_
        rw [hnn]
        show zJW X _ _ _ (rdM M)
        refine z_ald (pc := 94) hc 1 rfl dX6_read_94 ?_
        refine kc_X6_73 (pc := 95) hc rfl (zfitX (by decide) rfl rfl) rfl (Nat.le_of_ble_eq_true rfl) (ct_X6_land (rdM M) (by assumption) ) dX6_read_95 ?_
        exact z_iret (pc := 98) hc he rfl dX6_read_98 (⟨by rw [if_pos h6], by rw [if_pos h6]⟩)
      · exfalso; omega
    · show zJW X 46 [(1, zI ((i46 : Nat) : Int)), (0, zR 38)] [] (rcR (rdB M) ((i46 : Nat) : Int))
      have f0 : (rcR (rdB M) ((i46 : Nat) : Int)) 39 0 = (erM M 38 18 + 1) := (rcR_lo (by omega)).trans rdB_0
      have f1 : (rcR (rdB M) ((i46 : Nat) : Int)) 39 1 = (erM M 38 20) := (rcR_lo (by omega)).trans rdB_1
      have f2 : (rcR (rdB M) ((i46 : Nat) : Int)) 39 0 * (rcR (rdB M) ((i46 : Nat) : Int)) 39 1 = (erM M 38 18 + 1) * (erM M 38 20) := by rw [f0, f1]
      refine z_ild (pc := 46) hc 0 rfl dX6_read_46 ?_
      refine z_ald (pc := 47) hc 1 rfl dX6_read_47 ?_
      refine kc_X6_116 (pc := 48) hc rfl (zfitX (by decide) rfl rfl) rfl (Nat.le_of_ble_eq_true rfl) (ct_X6_tiles (rcR (rdB M) ((i46 : Nat) : Int))) dX6_read_48 ?_
      refine z_cge (pc := 51) (tgt := 89) hc (by omega) (by decide) dX6_read_51 (fun h51 => ?_) (fun h51 => ?_)
      · exfalso; omega
      · show zJW X 54 [(1, zI ((i46 : Nat) : Int)), (0, zR 38)] [] (rcR (rdB M) ((i46 : Nat) : Int))
        refine z_ald (pc := 54) hc 1 rfl dX6_read_54 ?_
        refine fg_X6_7 (pc := 55) hc rfl rfl dX6_read_55 ?_
        refine z_iconst (pc := 58) hc 3 dX6_read_58 ?_
        refine z_ild (pc := 59) hc 0 rfl dX6_read_59 ?_
        refine z_iadd (pc := 60) hc dX6_read_60 ?_
        refine z_ald (pc := 61) hc 1 rfl dX6_read_61 ?_
        refine fg_X6_51 (pc := 62) hc rfl rfl dX6_read_62 ?_
        refine z_bipush (pc := 65) hc 12 (by decide) dX6_read_65 ?_
        have kx := zkx (w := (erM M 38 20)) (h := (erM M 38 18 + 1)) (k := ((i46 : Nat) : Int)) (by omega) (by omega)
        refine z_ild (pc := 67) hc 0 rfl dX6_read_67 ?_
        refine z_ald (pc := 68) hc 1 rfl dX6_read_68 ?_
        refine fg_X6_182 (pc := 69) hc rfl rfl dX6_read_69 ?_
        rw [rcR_off (by decide), b9]
        refine z_idiv (pc := 72) hc (by omega) dX6_read_72 ?_
        refine z_imul (pc := 73) hc dX6_read_73 ?_
        refine z_ild (pc := 74) hc 0 rfl dX6_read_74 ?_
        refine z_ald (pc := 75) hc 1 rfl dX6_read_75 ?_
        refine fg_X6_182 (pc := 76) hc rfl rfl dX6_read_76 ?_
        rw [rcR_off (by decide), b9]
        refine z_irem (pc := 79) hc (by omega) dX6_read_79 ?_
        refine z_iadd (pc := 80) hc dX6_read_80 ?_
        refine z_iald (pc := 81) hc rfl rfl rfl (by decide) (by omega) dX6_read_81 ?_
        rw [rcR_off (by decide)]
        refine z_iast (pc := 82) hc rfl rfl rfl (by decide) (by omega) dX6_read_82 ?_
        refine z_iinc (pc := 83) (lv' := [(1, zI (((i46 : Nat) : Int) + 1)), (0, zR 38)]) hc 0 rfl rfl (by decide) dX6_read_83 ?_
        refine z_goto (pc := 86) (tgt := 46) hc (by decide) dX6_read_86 ?_
        exact zJW_eq (by rfl) rfl (by rw [← b9]; exact rcR_s i46) ih46
  · show zJW X 9 [(0, zR 38)] [] (erM M)
    refine z_bipush (pc := 9) hc (-5) (by decide) dX6_read_9 ?_
    exact z_iret (pc := 11) hc he rfl dX6_read_11 (⟨by rw [if_neg h6], by rw [if_neg h6]⟩)
