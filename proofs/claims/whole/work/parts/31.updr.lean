set_option maxRecDepth 100000 in
set_option maxHeartbeats 4000000 in
theorem ct_X6_begin (M : Mem) (hR : RI M) (r : Int) (hb_r : -2147483648 ≤ r ∧ r < 2147483648) (c : Int) (hb_c : -2147483648 ≤ c ∧ c < 2147483648)  : zCt yX6_begin KX6_begin [zR 38, zI r, zI c] M (fun zv zM => zv = some (if 1 ≤ r ∧ r ≤ 12 ∧ 1 ≤ c ∧ c ≤ 12 then r * c else -2) ∧ zM = (if 1 ≤ r ∧ r ≤ 12 ∧ 1 ≤ c ∧ c ≤ 12 then bgR M r c else M)) := by
  obtain ⟨hU, hZ, hO, hH⟩ := id hR
  obtain ⟨hs1, hs2, hs3, hs4, hs5, hs6, hs7⟩ := id hZ
  have hw9 := zhw hs1 hs2 hs3 hs4
  have hR1 := recR_RI hR
  obtain ⟨hU1, hZ1, hO1, hH1⟩ := id hR1
  have e39 : recR M 39 = M 39 := recR_off (by decide) (by decide)
  refine z_met (by decide) rfl (Nat.le_of_ble_eq_true rfl) (fun X hc he => ?_)
  show zJW X 0 [(0, zR 38), (1, zI r), (2, zI c)] [] M
  refine z_ild (pc := 0) hc 1 rfl dX6_begin_0 ?_
  refine z_iconst (pc := 1) hc 1 dX6_begin_1 ?_
  refine z_bipush (pc := 2) hc 12 (by decide) dX6_begin_2 ?_
  refine kc_X6_61 (pc := 4) hc rfl (zfit0 (by decide) rfl rfl) (Nat.le_of_ble_eq_true rfl) (ct_X6_in M r 1 12 (by omega) (by omega) (by omega)) dX6_begin_4 ?_
  refine z_beq (pc := 7) (tgt := 20) hc (by decide) dX6_begin_7 (fun h7 => ?_) (fun h7 => ?_)
  · show zJW X 20 [(0, zR 38), (1, zI r), (2, zI c)] [] M
    refine z_bipush (pc := 20) hc (-2) (by decide) dX6_begin_20 ?_
    exact z_iret (pc := 22) hc he rfl dX6_begin_22 (by first | (have h7 := of_decide_eq_false h7; exact ⟨by rw [if_neg (by omega)], by rw [if_neg (by omega)]⟩) | (have h17 := of_decide_eq_false h17; exact ⟨by rw [if_neg (by omega)], by rw [if_neg (by omega)]⟩))
  · show zJW X 10 [(0, zR 38), (1, zI r), (2, zI c)] [] M
    refine z_ild (pc := 10) hc 2 rfl dX6_begin_10 ?_
    refine z_iconst (pc := 11) hc 1 dX6_begin_11 ?_
    refine z_bipush (pc := 12) hc 12 (by decide) dX6_begin_12 ?_
    refine kc_X6_61 (pc := 14) hc rfl (zfit0 (by decide) rfl rfl) (Nat.le_of_ble_eq_true rfl) (ct_X6_in M c 1 12 (by omega) (by omega) (by omega)) dX6_begin_14 ?_
    refine z_bne (pc := 17) (tgt := 23) hc (by decide) dX6_begin_17 (fun h17 => ?_) (fun h17 => ?_)
    · show zJW X 23 [(0, zR 38), (1, zI r), (2, zI c)] [] M
      have h7 := of_decide_eq_true h7
      have h17 := of_decide_eq_true h17
      refine z_ald (pc := 23) hc 0 rfl dX6_begin_23 ?_
      refine kc_X6_77 (pc := 24) hc rfl (zfitX (by decide) rfl rfl) rfl (Nat.le_of_ble_eq_true rfl) (ct_X6_record M (by assumption) ) dX6_begin_24 ?_
      refine z_ald (pc := 27) hc 0 rfl dX6_begin_27 ?_
      refine fg_X6_7 (pc := 28) hc rfl rfl dX6_begin_28 ?_
      refine z_iconst (pc := 31) hc 0 dX6_begin_31 ?_
      refine z_ild (pc := 32) hc 1 rfl dX6_begin_32 ?_
      refine z_iast (pc := 33) hc rfl rfl rfl (by decide) (by omega) dX6_begin_33 ?_
      refine z_ald (pc := 34) hc 0 rfl dX6_begin_34 ?_
      refine fg_X6_7 (pc := 35) hc rfl rfl dX6_begin_35 ?_
      refine z_iconst (pc := 38) hc 1 dX6_begin_38 ?_
      refine z_ild (pc := 39) hc 2 rfl dX6_begin_39 ?_
      refine z_iast (pc := 40) hc rfl rfl rfl (by decide) (by omega) dX6_begin_40 ?_
      refine z_ald (pc := 41) hc 0 rfl dX6_begin_41 ?_
      refine kc_X6_58 (pc := 42) hc rfl (zfitX (by decide) rfl rfl) rfl (Nat.le_of_ble_eq_true rfl) (ct_X6_water (zup (zup (recR M) 39 0 r) 39 1 c)) dX6_begin_42 ?_
      refine z_ald (pc := 45) hc 0 rfl dX6_begin_45 ?_
      refine kc_X6_116 (pc := 46) hc rfl (zfitX (by decide) rfl rfl) rfl (Nat.le_of_ble_eq_true rfl) (ct_X6_tiles (watR (zup (zup (recR M) 39 0 r) 39 1 c) 144)) dX6_begin_46 ?_
      exact z_iret (pc := 49) hc he rfl dX6_begin_49 (⟨by rw [if_pos (by omega), watR_z (by omega), watR_z (by omega), zup_at, zup_off (by omega), zup_at], by rw [if_pos (by omega)]; rfl⟩)
    · show zJW X 20 [(0, zR 38), (1, zI r), (2, zI c)] [] M
      refine z_bipush (pc := 20) hc (-2) (by decide) dX6_begin_20 ?_
      exact z_iret (pc := 22) hc he rfl dX6_begin_22 (by first | (have h7 := of_decide_eq_false h7; exact ⟨by rw [if_neg (by omega)], by rw [if_neg (by omega)]⟩) | (have h17 := of_decide_eq_false h17; exact ⟨by rw [if_neg (by omega)], by rw [if_neg (by omega)]⟩))

set_option maxRecDepth 100000 in
set_option maxHeartbeats 4000000 in
theorem ct_X6_undo (M : Mem) (hR : RI M)   : zCt yX6_undo KX6_undo [zR 38] M (fun zv zM => zv = some (if M 38 2 = 0 then -3 else M 38 2 - 1) ∧ zM = (if M 38 2 = 0 then M else unR M)) := by
  obtain ⟨hU, hZ, hO, hH⟩ := id hR
  obtain ⟨hs1, hs2, hs3, hs4, hs5, hs6, hs7⟩ := id hZ
  have hw9 := zhw hs1 hs2 hs3 hs4
  have hR1 := recR_RI hR
  obtain ⟨hU1, hZ1, hO1, hH1⟩ := id hR1
  have e39 : recR M 39 = M 39 := recR_off (by decide) (by decide)
  obtain ⟨hh1, hh2⟩ := id hH
  refine z_met (by decide) rfl (Nat.le_of_ble_eq_true rfl) (fun X hc he => ?_)
  show zJW X 0 [(0, zR 38)] [] M
  refine z_ald (pc := 0) hc 0 rfl dX6_undo_0 ?_
  refine fg_X6_65 (pc := 1) hc rfl rfl dX6_undo_1 ?_
  refine z_ine (pc := 4) (tgt := 10) hc (by omega) (by decide) dX6_undo_4 (fun h4 => ?_) (fun h4 => ?_)
  · show zJW X 10 [(0, zR 38)] [] M
    refine z_ald (pc := 10) hc 0 rfl dX6_undo_10 ?_
    refine z_dup (pc := 11) hc rfl dX6_undo_11 ?_
    refine fg_X6_65 (pc := 12) hc rfl rfl dX6_undo_12 ?_
    refine z_iconst (pc := 15) hc 1 dX6_undo_15 ?_
    refine z_isub (pc := 16) hc dX6_undo_16 ?_
    refine fp_X6_65 (pc := 17) hc rfl rfl dX6_undo_17 ?_
    refine z_iconst (pc := 20) hc 0 dX6_undo_20 ?_
    refine z_ist (pc := 21) (lv' := [(1, zI 0), (0, zR 38)]) hc rfl (by decide) dX6_undo_21 ?_
    refine z_for 291 (fun i22 => [(1, zI ((i22 : Nat) : Int)), (0, zR 38)]) (fun i22 => (mvR (zup M 38 2 (M 38 2 - 1)) 39 0 40 ((M 38 2 - 1) * 291) ((i22 : Nat) : Int))) (by rfl) (by exact mvR_0) ?_ (fun i22 hi22 ih22 => ?_)
    · show zJW X 22 [(1, zI 291), (0, zR 38)] [] (mvR (zup M 38 2 (M 38 2 - 1)) 39 0 40 ((M 38 2 - 1) * 291) 291)
      refine z_ild (pc := 22) hc 0 rfl dX6_undo_22 ?_
      refine z_sipush (pc := 23) hc 291 (by decide) dX6_undo_23 ?_
      refine z_cge (pc := 26) (tgt := 56) hc (by omega) (by decide) dX6_undo_26 (fun h26 => ?_) (fun h26 => ?_)
      · show zJW X 56 [(1, zI 291), (0, zR 38)] [] (mvR (zup M 38 2 (M 38 2 - 1)) 39 0 40 ((M 38 2 - 1) * 291) 291)
        refine z_ald (pc := 56) hc 1 rfl dX6_undo_56 ?_
        refine fg_X6_65 (pc := 57) hc rfl rfl dX6_undo_57 ?_
        rw [mvR_off (by decide), zup_at]
        exact z_iret (pc := 60) hc he rfl dX6_undo_60 (⟨by rw [if_neg (by omega)], by rw [if_neg (by omega)]; rfl⟩)
      · exfalso; omega
    · show zJW X 22 [(1, zI ((i22 : Nat) : Int)), (0, zR 38)] [] (mvR (zup M 38 2 (M 38 2 - 1)) 39 0 40 ((M 38 2 - 1) * 291) ((i22 : Nat) : Int))
      refine z_ild (pc := 22) hc 0 rfl dX6_undo_22 ?_
      refine z_sipush (pc := 23) hc 291 (by decide) dX6_undo_23 ?_
      refine z_cge (pc := 26) (tgt := 56) hc (by omega) (by decide) dX6_undo_26 (fun h26 => ?_) (fun h26 => ?_)
      · exfalso; omega
      · show zJW X 29 [(1, zI ((i22 : Nat) : Int)), (0, zR 38)] [] (mvR (zup M 38 2 (M 38 2 - 1)) 39 0 40 ((M 38 2 - 1) * 291) ((i22 : Nat) : Int))
        refine z_ald (pc := 29) hc 1 rfl dX6_undo_29 ?_
        refine fg_X6_7 (pc := 30) hc rfl rfl dX6_undo_30 ?_
        refine z_ild (pc := 33) hc 0 rfl dX6_undo_33 ?_
        refine z_ald (pc := 34) hc 1 rfl dX6_undo_34 ?_
        refine fg_X6_13 (pc := 35) hc rfl rfl dX6_undo_35 ?_
        refine z_ald (pc := 38) hc 1 rfl dX6_undo_38 ?_
        refine fg_X6_65 (pc := 39) hc rfl rfl dX6_undo_39 ?_
        rw [mvR_off (by decide), zup_at]
        refine z_sipush (pc := 42) hc 291 (by decide) dX6_undo_42 ?_
        refine z_imul (pc := 45) hc dX6_undo_45 ?_
        refine z_ild (pc := 46) hc 0 rfl dX6_undo_46 ?_
        refine z_iadd (pc := 47) hc dX6_undo_47 ?_
        refine z_iald (pc := 48) hc rfl rfl rfl (by decide) (by omega) dX6_undo_48 ?_
        rw [mvR_off (by decide), show (zup M 38 2 (M 38 2 - 1)) 40 = M 40 from zup_ne (by decide)]
        refine z_iast (pc := 49) hc rfl rfl rfl (by decide) (by omega) dX6_undo_49 ?_
        refine z_iinc (pc := 50) (lv' := [(1, zI (((i22 : Nat) : Int) + 1)), (0, zR 38)]) hc 0 rfl rfl (by decide) dX6_undo_50 ?_
        refine z_goto (pc := 53) (tgt := 22) hc (by decide) dX6_undo_53 ?_
        exact zJW_eq (by rfl) rfl (by rw [show M 40 = (zup M 38 2 (M 38 2 - 1)) 40 from (zup_ne (by decide)).symm]; exact mvR_s0 i22) ih22
  · show zJW X 7 [(0, zR 38)] [] M
    refine z_bipush (pc := 7) hc (-3) (by decide) dX6_undo_7 ?_
    exact z_iret (pc := 9) hc he rfl dX6_undo_9 (⟨by rw [if_pos (by omega)], by rw [if_pos (by omega)]⟩)

set_option maxRecDepth 100000 in
set_option maxHeartbeats 4000000 in
theorem ct_X6_save (M : Mem) (hR : RI M)   : zCt yX6_save KX6_save [zR 38] M (fun zv zM => zv = some (lnT (tsZ (M 39))) ∧ zM = svR M) := by
  obtain ⟨hU, hZ, hO, hH⟩ := id hR
  obtain ⟨hs1, hs2, hs3, hs4, hs5, hs6, hs7⟩ := id hZ
  have hw9 := zhw hs1 hs2 hs3 hs4
  have hR1 := recR_RI hR
  obtain ⟨hU1, hZ1, hO1, hH1⟩ := id hR1
  have e39 : recR M 39 = M 39 := recR_off (by decide) (by decide)
  refine z_met (by decide) rfl (Nat.le_of_ble_eq_true rfl) (fun X hc he => ?_)
  show zJW X 0 [(0, zR 38)] [] M
  refine z_ald (pc := 0) hc 0 rfl dX6_save_0 ?_
  refine z_iconst (pc := 1) hc 1 dX6_save_1 ?_
  refine fp_X6_69 (pc := 2) (b := true) hc rfl rfl dX6_save_2 ?_
  refine z_iconst (pc := 5) hc 0 dX6_save_5 ?_
  refine z_ist (pc := 6) (lv' := [(1, zI 0), (0, zR 38)]) hc rfl (by decide) dX6_save_6 ?_
  refine z_for 291 (fun i7 => [(1, zI ((i7 : Nat) : Int)), (0, zR 38)]) (fun i7 => (mvR (zup M 38 4 (zbz true)) 41 0 39 0 ((i7 : Nat) : Int))) (by rfl) (by exact mvR_0) ?_ (fun i7 hi7 ih7 => ?_)
  · show zJW X 7 [(1, zI 291), (0, zR 38)] [] (mvR (zup M 38 4 (zbz true)) 41 0 39 0 291)
    refine z_ild (pc := 7) hc 0 rfl dX6_save_7 ?_
    refine z_sipush (pc := 8) hc 291 (by decide) dX6_save_8 ?_
    refine z_cge (pc := 11) (tgt := 32) hc (by omega) (by decide) dX6_save_11 (fun h11 => ?_) (fun h11 => ?_)
    · show zJW X 32 [(1, zI 291), (0, zR 38)] [] (mvR (zup M 38 4 (zbz true)) 41 0 39 0 291)
      have e9 : (mvR (zup M 38 4 (zbz true)) 41 0 39 0 291) 39 = M 39 := (funext fun z => mvR_off (by decide)).trans (zup_ne (by decide))
      have hz9 : zRf ((mvR (zup M 38 4 (zbz true)) 41 0 39 0 291) 39) := by rw [e9]; exact hZ
      refine z_ald (pc := 32) hc 1 rfl dX6_save_32 ?_
      refine kc_X6_73 (pc := 33) hc rfl (zfitX (by decide) rfl rfl) rfl (Nat.le_of_ble_eq_true rfl) (ct_X6_land (mvR (zup M 38 4 (zbz true)) 41 0 39 0 291) (by assumption) ) dX6_save_33 ?_
      exact z_iret (pc := 36) hc he rfl dX6_save_36 (⟨by rw [e9], rfl⟩)
    · exfalso; omega
  · show zJW X 7 [(1, zI ((i7 : Nat) : Int)), (0, zR 38)] [] (mvR (zup M 38 4 (zbz true)) 41 0 39 0 ((i7 : Nat) : Int))
    refine z_ild (pc := 7) hc 0 rfl dX6_save_7 ?_
    refine z_sipush (pc := 8) hc 291 (by decide) dX6_save_8 ?_
    refine z_cge (pc := 11) (tgt := 32) hc (by omega) (by decide) dX6_save_11 (fun h11 => ?_) (fun h11 => ?_)
    · exfalso; omega
    · show zJW X 14 [(1, zI ((i7 : Nat) : Int)), (0, zR 38)] [] (mvR (zup M 38 4 (zbz true)) 41 0 39 0 ((i7 : Nat) : Int))
      refine z_ald (pc := 14) hc 1 rfl dX6_save_14 ?_
      refine fg_X6_16 (pc := 15) hc rfl rfl dX6_save_15 ?_
      refine z_ild (pc := 18) hc 0 rfl dX6_save_18 ?_
      refine z_ald (pc := 19) hc 1 rfl dX6_save_19 ?_
      refine fg_X6_7 (pc := 20) hc rfl rfl dX6_save_20 ?_
      refine z_ild (pc := 23) hc 0 rfl dX6_save_23 ?_
      refine z_iald (pc := 24) hc rfl rfl rfl (by decide) (by omega) dX6_save_24 ?_
      rw [mvR_off (by decide), show (zup M 38 4 (zbz true)) 39 = M 39 from zup_ne (by decide)]
      refine z_iast (pc := 25) hc rfl rfl rfl (by decide) (by omega) dX6_save_25 ?_
      refine z_iinc (pc := 26) (lv' := [(1, zI (((i7 : Nat) : Int) + 1)), (0, zR 38)]) hc 0 rfl rfl (by decide) dX6_save_26 ?_
      refine z_goto (pc := 29) (tgt := 7) hc (by decide) dX6_save_29 ?_
      exact zJW_eq (by rfl) rfl (by rw [show M 39 ((i7 : Nat) : Int) = (zup M 38 4 (zbz true)) 39 (0 + ((i7 : Nat) : Int)) from by rw [zup_ne (by decide), Int.zero_add]]; exact mvR_s0 i7) ih7

set_option maxRecDepth 100000 in
set_option maxHeartbeats 4000000 in
theorem ct_X6_restore (M : Mem) (hR : RI M)  (hB : M 38 4 = 0 ∨ M 38 4 = 1) (hK : M 38 4 = 1 → zRf (M 41))  : zCt yX6_restore KX6_restore [zR 38] M (fun zv zM => zv = some (if M 38 4 = 1 then lnT (tsZ (M 41)) else -3) ∧ zM = (if M 38 4 = 1 then rsR M else M)) := by
  obtain ⟨hU, hZ, hO, hH⟩ := id hR
  obtain ⟨hs1, hs2, hs3, hs4, hs5, hs6, hs7⟩ := id hZ
  have hw9 := zhw hs1 hs2 hs3 hs4
  have hR1 := recR_RI hR
  obtain ⟨hU1, hZ1, hO1, hH1⟩ := id hR1
  have e39 : recR M 39 = M 39 := recR_off (by decide) (by decide)
  refine z_met (by decide) rfl (Nat.le_of_ble_eq_true rfl) (fun X hc he => ?_)
  show zJW X 0 [(0, zR 38)] [] M
  refine z_ald (pc := 0) hc 0 rfl dX6_restore_0 ?_
  refine fg_X6_69 (pc := 1) hc rfl rfl dX6_restore_1 ?_
  refine z_ine (pc := 4) (tgt := 10) hc (by omega) (by decide) dX6_restore_4 (fun h4 => ?_) (fun h4 => ?_)
  · show zJW X 10 [(0, zR 38)] [] M
    refine z_ald (pc := 10) hc 0 rfl dX6_restore_10 ?_
    refine kc_X6_77 (pc := 11) hc rfl (zfitX (by decide) rfl rfl) rfl (Nat.le_of_ble_eq_true rfl) (ct_X6_record M (by assumption) ) dX6_restore_11 ?_
    refine z_iconst (pc := 14) hc 0 dX6_restore_14 ?_
    refine z_ist (pc := 15) (lv' := [(1, zI 0), (0, zR 38)]) hc rfl (by decide) dX6_restore_15 ?_
    refine z_for 291 (fun i16 => [(1, zI ((i16 : Nat) : Int)), (0, zR 38)]) (fun i16 => (mvR (recR M) 39 0 41 0 ((i16 : Nat) : Int))) (by rfl) (by exact mvR_0) ?_ (fun i16 hi16 ih16 => ?_)
    · show zJW X 16 [(1, zI 291), (0, zR 38)] [] (mvR (recR M) 39 0 41 0 291)
      refine z_ild (pc := 16) hc 0 rfl dX6_restore_16 ?_
      refine z_sipush (pc := 17) hc 291 (by decide) dX6_restore_17 ?_
      refine z_cge (pc := 20) (tgt := 41) hc (by omega) (by decide) dX6_restore_20 (fun h20 => ?_) (fun h20 => ?_)
      · show zJW X 41 [(1, zI 291), (0, zR 38)] [] (mvR (recR M) 39 0 41 0 291)
        have hk41 := hK (by omega)
        have ex : ∀ z : Int, 0 ≤ z → z < 291 → mvR (recR M) 39 0 41 0 291 39 z = M 41 z := fun z a b => by
          rw [mvR_at (by omega), show recR M 41 = M 41 from recR_off (by decide) (by decide)]
          congr 1
          omega
        have hz9 := zRf_ext ex hk41
        have ht9 := tsZ_ext ex hk41
        refine z_ald (pc := 41) hc 1 rfl dX6_restore_41 ?_
        refine kc_X6_73 (pc := 42) hc rfl (zfitX (by decide) rfl rfl) rfl (Nat.le_of_ble_eq_true rfl) (ct_X6_land (mvR (recR M) 39 0 41 0 291) (by assumption) ) dX6_restore_42 ?_
        exact z_iret (pc := 45) hc he rfl dX6_restore_45 (⟨by rw [if_pos (by omega), ht9], by rw [if_pos (by omega)]; rfl⟩)
      · exfalso; omega
    · show zJW X 16 [(1, zI ((i16 : Nat) : Int)), (0, zR 38)] [] (mvR (recR M) 39 0 41 0 ((i16 : Nat) : Int))
      refine z_ild (pc := 16) hc 0 rfl dX6_restore_16 ?_
      refine z_sipush (pc := 17) hc 291 (by decide) dX6_restore_17 ?_
      refine z_cge (pc := 20) (tgt := 41) hc (by omega) (by decide) dX6_restore_20 (fun h20 => ?_) (fun h20 => ?_)
      · exfalso; omega
      · show zJW X 23 [(1, zI ((i16 : Nat) : Int)), (0, zR 38)] [] (mvR (recR M) 39 0 41 0 ((i16 : Nat) : Int))
        refine z_ald (pc := 23) hc 1 rfl dX6_restore_23 ?_
        refine fg_X6_7 (pc := 24) hc rfl rfl dX6_restore_24 ?_
        refine z_ild (pc := 27) hc 0 rfl dX6_restore_27 ?_
        refine z_ald (pc := 28) hc 1 rfl dX6_restore_28 ?_
        refine fg_X6_16 (pc := 29) hc rfl rfl dX6_restore_29 ?_
        refine z_ild (pc := 32) hc 0 rfl dX6_restore_32 ?_
        refine z_iald (pc := 33) hc rfl rfl rfl (by decide) (by omega) dX6_restore_33 ?_
        rw [mvR_off (by decide), show recR M 41 = M 41 from recR_off (by decide) (by decide)]
        refine z_iast (pc := 34) hc rfl rfl rfl (by decide) (by omega) dX6_restore_34 ?_
        refine z_iinc (pc := 35) (lv' := [(1, zI (((i16 : Nat) : Int) + 1)), (0, zR 38)]) hc 0 rfl rfl (by decide) dX6_restore_35 ?_
        refine z_goto (pc := 38) (tgt := 16) hc (by decide) dX6_restore_38 ?_
        exact zJW_eq (by rfl) rfl (by rw [show M 41 ((i16 : Nat) : Int) = recR M 41 (0 + ((i16 : Nat) : Int)) from by rw [recR_off (by decide) (by decide), Int.zero_add]]; exact mvR_s0 i16) ih16
  · show zJW X 7 [(0, zR 38)] [] M
    refine z_bipush (pc := 7) hc (-3) (by decide) dX6_restore_7 ?_
    exact z_iret (pc := 9) hc he rfl dX6_restore_9 (⟨by rw [if_neg (by omega)], by rw [if_neg (by omega)]⟩)

set_option maxRecDepth 100000 in
set_option maxHeartbeats 4000000 in
theorem ct_X6_lookShapes (M : Mem) (hZ : zRf (M 39)) (hU : TbR M)  : zCt yX6_lookShapes KX6_lookShapes [zR 38] M (fun zv zM => zv = none ∧ zM = lsR M (M 39 0 * M 39 1)) := by
  obtain ⟨hs1, hs2, hs3, hs4, hs5, hs6, hs7⟩ := id hZ
  have hw9 := zhw hs1 hs2 hs3 hs4
  have hnn : (((M 39 0 * M 39 1).toNat : Nat) : Int) = M 39 0 * M 39 1 := Int.toNat_of_nonneg (by omega)
  refine z_met (by decide) rfl (Nat.le_of_ble_eq_true rfl) (fun X hc he => ?_)
  show zJW X 0 [(0, zR 38)] [] M
  refine z_iconst (pc := 0) hc 0 dX6_lookShapes_0 ?_
  refine z_ist (pc := 1) (lv' := [(1, zI 0), (0, zR 38)]) hc rfl (by decide) dX6_lookShapes_1 ?_
  refine z_for ((M 39 0 * M 39 1).toNat) (fun i2 => [(1, zI ((i2 : Nat) : Int)), (0, zR 38)]) (fun i2 => (lsR M ((i2 : Nat) : Int))) (by rfl) (by exact lsR_0) ?_ (fun i2 hi2 ih2 => ?_)
  · show zJW X 2 [(1, zI ((((M 39 0 * M 39 1).toNat) : Nat) : Int)), (0, zR 38)] [] (lsR M ((((M 39 0 * M 39 1).toNat) : Nat) : Int))
    have e9 : (lsR M (((M 39 0 * M 39 1).toNat : Nat) : Int)) 39 = M 39 := lsR_off (by decide)
    have hz9 : zRf ((lsR M (((M 39 0 * M 39 1).toNat : Nat) : Int)) 39) := by rw [e9]; exact hZ
    have hu9 : TbR (lsR M (((M 39 0 * M 39 1).toNat : Nat) : Int)) := TbR_congr (lsR_off (by decide)) (lsR_off (by decide)) hU
    have hp9 : (lsR M (((M 39 0 * M 39 1).toNat : Nat) : Int)) 39 0 * (lsR M (((M 39 0 * M 39 1).toNat : Nat) : Int)) 39 1 = M 39 0 * M 39 1 := by rw [e9]
    refine z_ild (pc := 2) hc 0 rfl dX6_lookShapes_2 ?_
    refine z_ald (pc := 3) hc 1 rfl dX6_lookShapes_3 ?_
    refine kc_X6_116 (pc := 4) hc rfl (zfitX (by decide) rfl rfl) rfl (Nat.le_of_ble_eq_true rfl) (ct_X6_tiles (lsR M ((((M 39 0 * M 39 1).toNat) : Nat) : Int))) dX6_lookShapes_4 ?_
    refine z_cge (pc := 7) (tgt := 27) hc (by omega) (by decide) dX6_lookShapes_7 (fun h7 => ?_) (fun h7 => ?_)
    · show zJW X 27 [(1, zI ((((M 39 0 * M 39 1).toNat) : Nat) : Int)), (0, zR 38)] [] (lsR M ((((M 39 0 * M 39 1).toNat) : Nat) : Int))
      exact z_vret (pc := 27) hc he rfl dX6_lookShapes_27 (⟨rfl, by rw [hnn]⟩)
    · exfalso; omega
  · show zJW X 2 [(1, zI ((i2 : Nat) : Int)), (0, zR 38)] [] (lsR M ((i2 : Nat) : Int))
    have e9 : (lsR M ((i2 : Nat) : Int)) 39 = M 39 := lsR_off (by decide)
    have hz9 : zRf ((lsR M ((i2 : Nat) : Int)) 39) := by rw [e9]; exact hZ
    have hu9 : TbR (lsR M ((i2 : Nat) : Int)) := TbR_congr (lsR_off (by decide)) (lsR_off (by decide)) hU
    have hp9 : (lsR M ((i2 : Nat) : Int)) 39 0 * (lsR M ((i2 : Nat) : Int)) 39 1 = M 39 0 * M 39 1 := by rw [e9]
    refine z_ild (pc := 2) hc 0 rfl dX6_lookShapes_2 ?_
    refine z_ald (pc := 3) hc 1 rfl dX6_lookShapes_3 ?_
    refine kc_X6_116 (pc := 4) hc rfl (zfitX (by decide) rfl rfl) rfl (Nat.le_of_ble_eq_true rfl) (ct_X6_tiles (lsR M ((i2 : Nat) : Int))) dX6_lookShapes_4 ?_
    refine z_cge (pc := 7) (tgt := 27) hc (by omega) (by decide) dX6_lookShapes_7 (fun h7 => ?_) (fun h7 => ?_)
    · exfalso; omega
    · show zJW X 10 [(1, zI ((i2 : Nat) : Int)), (0, zR 38)] [] (lsR M ((i2 : Nat) : Int))
      refine z_ald (pc := 10) hc 1 rfl dX6_lookShapes_10 ?_
      refine fg_X6_29 (pc := 11) hc rfl rfl dX6_lookShapes_11 ?_
      refine z_ild (pc := 14) hc 0 rfl dX6_lookShapes_14 ?_
      refine z_ald (pc := 15) hc 1 rfl dX6_lookShapes_15 ?_
      refine z_ild (pc := 16) hc 0 rfl dX6_lookShapes_16 ?_
      refine kc_X6_110 (pc := 17) hc rfl (zfitX (by decide) rfl rfl) rfl (Nat.le_of_ble_eq_true rfl) (ct_X6_shapeAt (lsR M ((i2 : Nat) : Int)) (by assumption) (by assumption) ((i2 : Nat) : Int) (by first | assumption | omega)) dX6_lookShapes_17 ?_
      rw [e9]
      refine z_iast (pc := 20) hc rfl rfl rfl (by decide) (by omega) dX6_lookShapes_20 ?_
      refine z_iinc (pc := 21) (lv' := [(1, zI (((i2 : Nat) : Int) + 1)), (0, zR 38)]) hc 0 rfl rfl (by decide) dX6_lookShapes_21 ?_
      refine z_goto (pc := 24) (tgt := 2) hc (by decide) dX6_lookShapes_24 ?_
      exact zJW_eq (by rfl) rfl (by exact lsR_s i2) ih2

set_option maxRecDepth 100000 in
set_option maxHeartbeats 4000000 in
theorem ct_X6_reshaped (M : Mem) (hZ : zRf (M 39)) (hU : TbR M) (hO : TOk (tsZ (M 39))) (hB : ∀ i : Int, 0 ≤ i → i < M 39 0 * M 39 1 → -6 ≤ M 45 i ∧ M 45 i < 47) : zCt yX6_reshaped KX6_reshaped [zR 38] M (fun zv zM => zv = some (rsC M) ∧ zM = M) := by
  obtain ⟨hs1, hs2, hs3, hs4, hs5, hs6, hs7⟩ := id hZ
  have hw9 := zhw hs1 hs2 hs3 hs4
  refine z_met (by decide) rfl (Nat.le_of_ble_eq_true rfl) (fun X hc he => ?_)
  show zJW X 0 [(0, zR 38)] [] M
  refine z_iconst (pc := 0) hc 0 dX6_reshaped_0 ?_
  refine z_ist (pc := 1) (lv' := [(1, zI 0), (0, zR 38)]) hc rfl (by decide) dX6_reshaped_1 ?_
  refine z_iconst (pc := 2) hc 0 dX6_reshaped_2 ?_
  refine z_ist (pc := 3) (lv' := [(2, zI 0), (1, zI 0), (0, zR 38)]) hc rfl (by decide) dX6_reshaped_3 ?_
  refine z_for ((M 39 0 * M 39 1).toNat) (fun i4 => [(2, zI ((i4 : Nat) : Int)), (1, zI (zrep (fun (k : Nat) (n : Int) => if M 45 k ≠ -6 ∧ M 39 (3 + (k : Int)) = 1 ∧ saT (tsZ (M 39)) ((k : Int) / M 39 1) ((k : Int) % M 39 1) ≠ M 45 k then n + 1 else n) i4 0)), (0, zR 38)]) (fun i4 => M) (by rfl) (by rfl) ?_ (fun i4 hi4 ih4 => ?_)
  · show zJW X 4 [(2, zI ((((M 39 0 * M 39 1).toNat) : Nat) : Int)), (1, zI (zrep (fun (k : Nat) (n : Int) => if M 45 k ≠ -6 ∧ M 39 (3 + (k : Int)) = 1 ∧ saT (tsZ (M 39)) ((k : Int) / M 39 1) ((k : Int) % M 39 1) ≠ M 45 k then n + 1 else n) ((M 39 0 * M 39 1).toNat) 0)), (0, zR 38)] [] M
    refine z_ild (pc := 4) hc 0 rfl dX6_reshaped_4 ?_
    refine z_ald (pc := 5) hc 2 rfl dX6_reshaped_5 ?_
    refine kc_X6_116 (pc := 6) hc rfl (zfitX (by decide) rfl rfl) rfl (Nat.le_of_ble_eq_true rfl) (ct_X6_tiles M) dX6_reshaped_6 ?_
    refine z_cge (pc := 9) (tgt := 59) hc (by omega) (by decide) dX6_reshaped_9 (fun h9 => ?_) (fun h9 => ?_)
    · show zJW X 59 [(2, zI ((((M 39 0 * M 39 1).toNat) : Nat) : Int)), (1, zI (zrep (fun (k : Nat) (n : Int) => if M 45 k ≠ -6 ∧ M 39 (3 + (k : Int)) = 1 ∧ saT (tsZ (M 39)) ((k : Int) / M 39 1) ((k : Int) % M 39 1) ≠ M 45 k then n + 1 else n) ((M 39 0 * M 39 1).toNat) 0)), (0, zR 38)] [] M
      refine z_ild (pc := 59) hc 1 rfl dX6_reshaped_59 ?_
      exact z_iret (pc := 60) hc he rfl dX6_reshaped_60 (⟨rfl, rfl⟩)
    · exfalso; omega
  · show zJW X 4 [(2, zI ((i4 : Nat) : Int)), (1, zI (zrep (fun (k : Nat) (n : Int) => if M 45 k ≠ -6 ∧ M 39 (3 + (k : Int)) = 1 ∧ saT (tsZ (M 39)) ((k : Int) / M 39 1) ((k : Int) % M 39 1) ≠ M 45 k then n + 1 else n) i4 0)), (0, zR 38)] [] M
    have hb4 := hB ((i4 : Nat) : Int) (by omega) (by omega)
    have hs4b := saT_Ok hO (((i4 : Nat) : Int) / M 39 1) (((i4 : Nat) : Int) % M 39 1)
    refine z_ild (pc := 4) hc 0 rfl dX6_reshaped_4 ?_
    refine z_ald (pc := 5) hc 2 rfl dX6_reshaped_5 ?_
    refine kc_X6_116 (pc := 6) hc rfl (zfitX (by decide) rfl rfl) rfl (Nat.le_of_ble_eq_true rfl) (ct_X6_tiles M) dX6_reshaped_6 ?_
    refine z_cge (pc := 9) (tgt := 59) hc (by omega) (by decide) dX6_reshaped_9 (fun h9 => ?_) (fun h9 => ?_)
    · exfalso; omega
    · show zJW X 12 [(2, zI ((i4 : Nat) : Int)), (1, zI (zrep (fun (k : Nat) (n : Int) => if M 45 k ≠ -6 ∧ M 39 (3 + (k : Int)) = 1 ∧ saT (tsZ (M 39)) ((k : Int) / M 39 1) ((k : Int) % M 39 1) ≠ M 45 k then n + 1 else n) i4 0)), (0, zR 38)] [] M
      refine z_ild (pc := 12) hc 1 rfl dX6_reshaped_12 ?_
      refine z_ald (pc := 13) hc 2 rfl dX6_reshaped_13 ?_
      refine fg_X6_29 (pc := 14) hc rfl rfl dX6_reshaped_14 ?_
      refine z_ild (pc := 17) hc 0 rfl dX6_reshaped_17 ?_
      refine z_iald (pc := 18) hc rfl rfl rfl (by decide) (by omega) dX6_reshaped_18 ?_
      refine z_bipush (pc := 19) hc (-6) (by decide) dX6_reshaped_19 ?_
      refine z_ceq (pc := 21) (tgt := 50) hc (by omega) (by decide) dX6_reshaped_21 (fun h21 => ?_) (fun h21 => ?_)
      · show zJW X 50 [(2, zI ((i4 : Nat) : Int)), (1, zI (zrep (fun (k : Nat) (n : Int) => if M 45 k ≠ -6 ∧ M 39 (3 + (k : Int)) = 1 ∧ saT (tsZ (M 39)) ((k : Int) / M 39 1) ((k : Int) % M 39 1) ≠ M 45 k then n + 1 else n) i4 0)), (0, zR 38)] [zI (zrep (fun (k : Nat) (n : Int) => if M 45 k ≠ -6 ∧ M 39 (3 + (k : Int)) = 1 ∧ saT (tsZ (M 39)) ((k : Int) / M 39 1) ((k : Int) % M 39 1) ≠ M 45 k then n + 1 else n) i4 0)] M
        refine z_iconst (pc := 50) hc 0 dX6_reshaped_50 ?_
        refine z_iadd (pc := 51) hc dX6_reshaped_51 ?_
        refine z_ist (pc := 52) (lv' := [(1, zI (zrep (fun (k : Nat) (n : Int) => if M 45 k ≠ -6 ∧ M 39 (3 + (k : Int)) = 1 ∧ saT (tsZ (M 39)) ((k : Int) / M 39 1) ((k : Int) % M 39 1) ≠ M 45 k then n + 1 else n) i4 0 + 0)), (2, zI ((i4 : Nat) : Int)), (0, zR 38)]) hc rfl (by decide) dX6_reshaped_52 ?_
        refine z_iinc (pc := 53) (lv' := [(2, zI (((i4 : Nat) : Int) + 1)), (1, zI (zrep (fun (k : Nat) (n : Int) => if M 45 k ≠ -6 ∧ M 39 (3 + (k : Int)) = 1 ∧ saT (tsZ (M 39)) ((k : Int) / M 39 1) ((k : Int) % M 39 1) ≠ M 45 k then n + 1 else n) i4 0 + 0)), (0, zR 38)]) hc 1 rfl rfl (by decide) dX6_reshaped_53 ?_
        refine z_goto (pc := 56) (tgt := 4) hc (by decide) dX6_reshaped_56 ?_
        exact zJW_eq (by rw [zrep_succ]; first | (rw [if_pos ⟨h21, of_decide_eq_true h29, h43⟩] <;> rfl) | (rw [if_neg (fun q => q.1 h21)] <;> rfl) | (rw [if_neg (fun q => q.1 h21), Int.add_zero] <;> rfl) | (rw [if_neg (fun q => (of_decide_eq_false h29) q.2.1)] <;> rfl) | (rw [if_neg (fun q => (of_decide_eq_false h29) q.2.1), Int.add_zero] <;> rfl) | (rw [if_neg (fun q => q.2.2 h43)] <;> rfl) | (rw [if_neg (fun q => q.2.2 h43), Int.add_zero] <;> rfl)) rfl (by rfl) ih4
      · show zJW X 24 [(2, zI ((i4 : Nat) : Int)), (1, zI (zrep (fun (k : Nat) (n : Int) => if M 45 k ≠ -6 ∧ M 39 (3 + (k : Int)) = 1 ∧ saT (tsZ (M 39)) ((k : Int) / M 39 1) ((k : Int) % M 39 1) ≠ M 45 k then n + 1 else n) i4 0)), (0, zR 38)] [zI (zrep (fun (k : Nat) (n : Int) => if M 45 k ≠ -6 ∧ M 39 (3 + (k : Int)) = 1 ∧ saT (tsZ (M 39)) ((k : Int) / M 39 1) ((k : Int) % M 39 1) ≠ M 45 k then n + 1 else n) i4 0)] M
        refine z_ald (pc := 24) hc 2 rfl dX6_reshaped_24 ?_
        refine z_ild (pc := 25) hc 0 rfl dX6_reshaped_25 ?_
        refine kc_X6_97 (pc := 26) hc rfl (zfitX (by decide) rfl rfl) rfl (Nat.le_of_ble_eq_true rfl) (ct_X6_isLandAt M (by assumption) ((i4 : Nat) : Int) (by omega)) dX6_reshaped_26 ?_
        refine z_beq (pc := 29) (tgt := 50) hc (by decide) dX6_reshaped_29 (fun h29 => ?_) (fun h29 => ?_)
        · show zJW X 50 [(2, zI ((i4 : Nat) : Int)), (1, zI (zrep (fun (k : Nat) (n : Int) => if M 45 k ≠ -6 ∧ M 39 (3 + (k : Int)) = 1 ∧ saT (tsZ (M 39)) ((k : Int) / M 39 1) ((k : Int) % M 39 1) ≠ M 45 k then n + 1 else n) i4 0)), (0, zR 38)] [zI (zrep (fun (k : Nat) (n : Int) => if M 45 k ≠ -6 ∧ M 39 (3 + (k : Int)) = 1 ∧ saT (tsZ (M 39)) ((k : Int) / M 39 1) ((k : Int) % M 39 1) ≠ M 45 k then n + 1 else n) i4 0)] M
          refine z_iconst (pc := 50) hc 0 dX6_reshaped_50 ?_
          refine z_iadd (pc := 51) hc dX6_reshaped_51 ?_
          refine z_ist (pc := 52) (lv' := [(1, zI (zrep (fun (k : Nat) (n : Int) => if M 45 k ≠ -6 ∧ M 39 (3 + (k : Int)) = 1 ∧ saT (tsZ (M 39)) ((k : Int) / M 39 1) ((k : Int) % M 39 1) ≠ M 45 k then n + 1 else n) i4 0 + 0)), (2, zI ((i4 : Nat) : Int)), (0, zR 38)]) hc rfl (by decide) dX6_reshaped_52 ?_
          refine z_iinc (pc := 53) (lv' := [(2, zI (((i4 : Nat) : Int) + 1)), (1, zI (zrep (fun (k : Nat) (n : Int) => if M 45 k ≠ -6 ∧ M 39 (3 + (k : Int)) = 1 ∧ saT (tsZ (M 39)) ((k : Int) / M 39 1) ((k : Int) % M 39 1) ≠ M 45 k then n + 1 else n) i4 0 + 0)), (0, zR 38)]) hc 1 rfl rfl (by decide) dX6_reshaped_53 ?_
          refine z_goto (pc := 56) (tgt := 4) hc (by decide) dX6_reshaped_56 ?_
          exact zJW_eq (by rw [zrep_succ]; first | (rw [if_pos ⟨h21, of_decide_eq_true h29, h43⟩] <;> rfl) | (rw [if_neg (fun q => q.1 h21)] <;> rfl) | (rw [if_neg (fun q => q.1 h21), Int.add_zero] <;> rfl) | (rw [if_neg (fun q => (of_decide_eq_false h29) q.2.1)] <;> rfl) | (rw [if_neg (fun q => (of_decide_eq_false h29) q.2.1), Int.add_zero] <;> rfl) | (rw [if_neg (fun q => q.2.2 h43)] <;> rfl) | (rw [if_neg (fun q => q.2.2 h43), Int.add_zero] <;> rfl)) rfl (by rfl) ih4
        · show zJW X 32 [(2, zI ((i4 : Nat) : Int)), (1, zI (zrep (fun (k : Nat) (n : Int) => if M 45 k ≠ -6 ∧ M 39 (3 + (k : Int)) = 1 ∧ saT (tsZ (M 39)) ((k : Int) / M 39 1) ((k : Int) % M 39 1) ≠ M 45 k then n + 1 else n) i4 0)), (0, zR 38)] [zI (zrep (fun (k : Nat) (n : Int) => if M 45 k ≠ -6 ∧ M 39 (3 + (k : Int)) = 1 ∧ saT (tsZ (M 39)) ((k : Int) / M 39 1) ((k : Int) % M 39 1) ≠ M 45 k then n + 1 else n) i4 0)] M
          refine z_ald (pc := 32) hc 2 rfl dX6_reshaped_32 ?_
          refine z_ild (pc := 33) hc 0 rfl dX6_reshaped_33 ?_
          refine kc_X6_110 (pc := 34) hc rfl (zfitX (by decide) rfl rfl) rfl (Nat.le_of_ble_eq_true rfl) (ct_X6_shapeAt M (by assumption) (by assumption) ((i4 : Nat) : Int) (by first | assumption | omega)) dX6_reshaped_34 ?_
          refine z_ald (pc := 37) hc 2 rfl dX6_reshaped_37 ?_
          refine fg_X6_29 (pc := 38) hc rfl rfl dX6_reshaped_38 ?_
          refine z_ild (pc := 41) hc 0 rfl dX6_reshaped_41 ?_
          refine z_iald (pc := 42) hc rfl rfl rfl (by decide) (by omega) dX6_reshaped_42 ?_
          refine z_ceq (pc := 43) (tgt := 50) hc (by omega) (by decide) dX6_reshaped_43 (fun h43 => ?_) (fun h43 => ?_)
          · show zJW X 50 [(2, zI ((i4 : Nat) : Int)), (1, zI (zrep (fun (k : Nat) (n : Int) => if M 45 k ≠ -6 ∧ M 39 (3 + (k : Int)) = 1 ∧ saT (tsZ (M 39)) ((k : Int) / M 39 1) ((k : Int) % M 39 1) ≠ M 45 k then n + 1 else n) i4 0)), (0, zR 38)] [zI (zrep (fun (k : Nat) (n : Int) => if M 45 k ≠ -6 ∧ M 39 (3 + (k : Int)) = 1 ∧ saT (tsZ (M 39)) ((k : Int) / M 39 1) ((k : Int) % M 39 1) ≠ M 45 k then n + 1 else n) i4 0)] M
            refine z_iconst (pc := 50) hc 0 dX6_reshaped_50 ?_
            refine z_iadd (pc := 51) hc dX6_reshaped_51 ?_
            refine z_ist (pc := 52) (lv' := [(1, zI (zrep (fun (k : Nat) (n : Int) => if M 45 k ≠ -6 ∧ M 39 (3 + (k : Int)) = 1 ∧ saT (tsZ (M 39)) ((k : Int) / M 39 1) ((k : Int) % M 39 1) ≠ M 45 k then n + 1 else n) i4 0 + 0)), (2, zI ((i4 : Nat) : Int)), (0, zR 38)]) hc rfl (by decide) dX6_reshaped_52 ?_
            refine z_iinc (pc := 53) (lv' := [(2, zI (((i4 : Nat) : Int) + 1)), (1, zI (zrep (fun (k : Nat) (n : Int) => if M 45 k ≠ -6 ∧ M 39 (3 + (k : Int)) = 1 ∧ saT (tsZ (M 39)) ((k : Int) / M 39 1) ((k : Int) % M 39 1) ≠ M 45 k then n + 1 else n) i4 0 + 0)), (0, zR 38)]) hc 1 rfl rfl (by decide) dX6_reshaped_53 ?_
            refine z_goto (pc := 56) (tgt := 4) hc (by decide) dX6_reshaped_56 ?_
            exact zJW_eq (by rw [zrep_succ]; first | (rw [if_pos ⟨h21, of_decide_eq_true h29, h43⟩] <;> rfl) | (rw [if_neg (fun q => q.1 h21)] <;> rfl) | (rw [if_neg (fun q => q.1 h21), Int.add_zero] <;> rfl) | (rw [if_neg (fun q => (of_decide_eq_false h29) q.2.1)] <;> rfl) | (rw [if_neg (fun q => (of_decide_eq_false h29) q.2.1), Int.add_zero] <;> rfl) | (rw [if_neg (fun q => q.2.2 h43)] <;> rfl) | (rw [if_neg (fun q => q.2.2 h43), Int.add_zero] <;> rfl)) rfl (by rfl) ih4
          · show zJW X 46 [(2, zI ((i4 : Nat) : Int)), (1, zI (zrep (fun (k : Nat) (n : Int) => if M 45 k ≠ -6 ∧ M 39 (3 + (k : Int)) = 1 ∧ saT (tsZ (M 39)) ((k : Int) / M 39 1) ((k : Int) % M 39 1) ≠ M 45 k then n + 1 else n) i4 0)), (0, zR 38)] [zI (zrep (fun (k : Nat) (n : Int) => if M 45 k ≠ -6 ∧ M 39 (3 + (k : Int)) = 1 ∧ saT (tsZ (M 39)) ((k : Int) / M 39 1) ((k : Int) % M 39 1) ≠ M 45 k then n + 1 else n) i4 0)] M
            refine z_iconst (pc := 46) hc 1 dX6_reshaped_46 ?_
            refine z_goto (pc := 47) (tgt := 51) hc (by decide) dX6_reshaped_47 ?_
            refine z_iadd (pc := 51) hc dX6_reshaped_51 ?_
            refine z_ist (pc := 52) (lv' := [(1, zI (zrep (fun (k : Nat) (n : Int) => if M 45 k ≠ -6 ∧ M 39 (3 + (k : Int)) = 1 ∧ saT (tsZ (M 39)) ((k : Int) / M 39 1) ((k : Int) % M 39 1) ≠ M 45 k then n + 1 else n) i4 0 + 1)), (2, zI ((i4 : Nat) : Int)), (0, zR 38)]) hc rfl (by decide) dX6_reshaped_52 ?_
            refine z_iinc (pc := 53) (lv' := [(2, zI (((i4 : Nat) : Int) + 1)), (1, zI (zrep (fun (k : Nat) (n : Int) => if M 45 k ≠ -6 ∧ M 39 (3 + (k : Int)) = 1 ∧ saT (tsZ (M 39)) ((k : Int) / M 39 1) ((k : Int) % M 39 1) ≠ M 45 k then n + 1 else n) i4 0 + 1)), (0, zR 38)]) hc 1 rfl rfl (by decide) dX6_reshaped_53 ?_
            refine z_goto (pc := 56) (tgt := 4) hc (by decide) dX6_reshaped_56 ?_
            exact zJW_eq (by rw [zrep_succ]; first | (rw [if_pos ⟨h21, of_decide_eq_true h29, h43⟩] <;> rfl) | (rw [if_neg (fun q => q.1 h21)] <;> rfl) | (rw [if_neg (fun q => q.1 h21), Int.add_zero] <;> rfl) | (rw [if_neg (fun q => (of_decide_eq_false h29) q.2.1)] <;> rfl) | (rw [if_neg (fun q => (of_decide_eq_false h29) q.2.1), Int.add_zero] <;> rfl) | (rw [if_neg (fun q => q.2.2 h43)] <;> rfl) | (rw [if_neg (fun q => q.2.2 h43), Int.add_zero] <;> rfl)) rfl (by rfl) ih4

set_option maxRecDepth 100000 in
set_option maxHeartbeats 4000000 in
theorem ct_X6_becomes (M : Mem) (hZ : zRf (M 39)) (k : Int) (hk : 0 ≤ k ∧ k < 144) (b : Bool) : zCt yX6_becomes KX6_becomes [zR 38, zI k, zI (zbz b)] M (fun zv zM => zv = some (zbz (decide (M 39 (3 + k) = 1) != b)) ∧ zM = becR M k b) := by
  obtain ⟨hs1, hs2, hs3, hs4, hs5, hs6, hs7⟩ := id hZ
  have hw9 := zhw hs1 hs2 hs3 hs4
  have hlb := zbz_bd (decide (M 39 (3 + k) = 1))
  have hbb := zbz_bd b
  have h6k := hs6 k hk.1 hk.2
  refine z_met (by decide) rfl (Nat.le_of_ble_eq_true rfl) (fun X hc he => ?_)
  show zJW X 0 [(0, zR 38), (1, zI k), (2, zI (zbz b))] [] M
  refine z_ald (pc := 0) hc 0 rfl dX6_becomes_0 ?_
  refine z_ild (pc := 1) hc 1 rfl dX6_becomes_1 ?_
  refine kc_X6_97 (pc := 2) hc rfl (zfitX (by decide) rfl rfl) rfl (Nat.le_of_ble_eq_true rfl) (ct_X6_isLandAt M (by assumption) k (by omega)) dX6_becomes_2 ?_
  refine z_ild (pc := 5) hc 2 rfl dX6_becomes_5 ?_
  have hJ14 : zJW X 14 [(0, zR 38), (1, zI k), (2, zI (zbz b))] [zI (zbz (decide (M 39 (3 + k) = 1) != b))] M := by
    refine z_ist (pc := 14) (lv' := [(3, zI (zbz (decide (M 39 (3 + k) = 1) != b))), (0, zR 38), (1, zI k), (2, zI (zbz b))]) hc rfl (by decide) dX6_becomes_14 ?_
    refine z_ald (pc := 15) hc 1 rfl dX6_becomes_15 ?_
    refine fg_X6_7 (pc := 16) hc rfl rfl dX6_becomes_16 ?_
    refine z_iconst (pc := 19) hc 3 dX6_becomes_19 ?_
    refine z_ild (pc := 20) hc 2 rfl dX6_becomes_20 ?_
    refine z_iadd (pc := 21) hc dX6_becomes_21 ?_
    refine z_ild (pc := 22) hc 3 rfl dX6_becomes_22 ?_
    have hJ31 : zJW X 31 [(3, zI (zbz (decide (M 39 (3 + k) = 1) != b))), (0, zR 38), (1, zI k), (2, zI (zbz b))] [zI (zbz b), zI (3 + k), zR 39] M := by
      refine z_iast (pc := 31) hc rfl rfl rfl (by decide) (by omega) dX6_becomes_31 ?_
      refine z_ald (pc := 32) hc 1 rfl dX6_becomes_32 ?_
      refine fg_X6_7 (pc := 33) hc rfl rfl dX6_becomes_33 ?_
      refine z_sipush (pc := 36) hc 147 (by decide) dX6_becomes_36 ?_
      refine z_ild (pc := 39) hc 2 rfl dX6_becomes_39 ?_
      refine z_iadd (pc := 40) hc dX6_becomes_40 ?_
      refine z_ild (pc := 41) hc 3 rfl dX6_becomes_41 ?_
      have hJ60 : zJW X 60 [(3, zI (zbz (decide (M 39 (3 + k) = 1) != b))), (0, zR 38), (1, zI k), (2, zI (zbz b))] [zI (if b then M 39 (147 + k) else -6), zI (147 + k), zR 39] (zup M 39 (3 + k) (zbz b)) := by
        refine z_iast (pc := 60) hc rfl rfl rfl (by decide) (by omega) dX6_becomes_60 ?_
        refine z_ild (pc := 61) hc 0 rfl dX6_becomes_61 ?_
        exact z_bret (pc := 62) (a := (decide (M 39 (3 + k) = 1) != b)) hc he rfl dX6_becomes_62 (⟨rfl, rfl⟩)
      refine z_beq (pc := 42) (tgt := 58) hc (by decide) dX6_becomes_42 (fun h42 => ?_) (fun h42 => ?_)
      · show zJW X 58 [(3, zI (zbz (decide (M 39 (3 + k) = 1) != b))), (0, zR 38), (1, zI k), (2, zI (zbz b))] [zI (147 + k), zR 39] (zup M 39 (3 + k) (zbz b))
        refine z_bipush (pc := 58) hc (-6) (by decide) dX6_becomes_58 ?_
        exact zJW_eq (by rfl) (by rw [h42]; rfl) (by rfl) hJ60
      · show zJW X 45 [(3, zI (zbz (decide (M 39 (3 + k) = 1) != b))), (0, zR 38), (1, zI k), (2, zI (zbz b))] [zI (147 + k), zR 39] (zup M 39 (3 + k) (zbz b))
        refine z_ald (pc := 45) hc 1 rfl dX6_becomes_45 ?_
        refine fg_X6_7 (pc := 46) hc rfl rfl dX6_becomes_46 ?_
        refine z_sipush (pc := 49) hc 147 (by decide) dX6_becomes_49 ?_
        refine z_ild (pc := 52) hc 2 rfl dX6_becomes_52 ?_
        refine z_iadd (pc := 53) hc dX6_becomes_53 ?_
        refine z_iald (pc := 54) hc rfl rfl rfl (by decide) (by omega) dX6_becomes_54 ?_
        rw [zup_off (by omega)]
        refine z_goto (pc := 55) (tgt := 60) hc (by decide) dX6_becomes_55 ?_
        exact zJW_eq (by rfl) (by rw [h42]; rfl) (by rfl) hJ60
    refine z_beq (pc := 23) (tgt := 30) hc (by decide) dX6_becomes_23 (fun h23 => ?_) (fun h23 => ?_)
    · show zJW X 30 [(3, zI (zbz (decide (M 39 (3 + k) = 1) != b))), (0, zR 38), (1, zI k), (2, zI (zbz b))] [zI (3 + k), zR 39] M
      refine z_iconst (pc := 30) hc 0 dX6_becomes_30 ?_
      exact zJW_eq (by rfl) (by rw [h23]; rfl) (by rfl) hJ31
    · show zJW X 26 [(3, zI (zbz (decide (M 39 (3 + k) = 1) != b))), (0, zR 38), (1, zI k), (2, zI (zbz b))] [zI (3 + k), zR 39] M
      refine z_iconst (pc := 26) hc 1 dX6_becomes_26 ?_
      refine z_goto (pc := 27) (tgt := 31) hc (by decide) dX6_becomes_27 ?_
      exact zJW_eq (by rfl) (by rw [h23]; rfl) (by rfl) hJ31
  refine z_ceq (pc := 6) (tgt := 13) hc (by omega) (by decide) dX6_becomes_6 (fun h6 => ?_) (fun h6 => ?_)
  · show zJW X 13 [(0, zR 38), (1, zI k), (2, zI (zbz b))] [] M
    refine z_iconst (pc := 13) hc 0 dX6_becomes_13 ?_
    exact zJW_eq (by rfl) (by first | rw [show (decide (M 39 (3 + k) = 1) != b) = true from bne_iff_ne.mpr (zbz_ne.mp h6)] <;> rfl | (rw [zbz_eq.mp h6]; simp [zbz])) (by rfl) hJ14
  · show zJW X 9 [(0, zR 38), (1, zI k), (2, zI (zbz b))] [] M
    refine z_iconst (pc := 9) hc 1 dX6_becomes_9 ?_
    refine z_goto (pc := 10) (tgt := 14) hc (by decide) dX6_becomes_10 ?_
    exact zJW_eq (by rfl) (by first | rw [show (decide (M 39 (3 + k) = 1) != b) = true from bne_iff_ne.mpr (zbz_ne.mp h6)] <;> rfl | (rw [zbz_eq.mp h6]; simp [zbz])) (by rfl) hJ14

set_option maxRecDepth 100000 in
set_option maxHeartbeats 4000000 in
theorem ct_X6_setOutside (M : Mem) (hR : RI M)  (b : Bool)  : zCt yX6_setOutside KX6_setOutside [zR 38, zI (zbz b)] M (fun zv zM => zv = some (rsC (zup (lsR (recR M) (recR M 39 0 * recR M 39 1)) 39 2 (zbz b))) ∧ zM = (zup (lsR (recR M) (recR M 39 0 * recR M 39 1)) 39 2 (zbz b))) := by
  obtain ⟨hU, hZ, hO, hH⟩ := id hR
  obtain ⟨hs1, hs2, hs3, hs4, hs5, hs6, hs7⟩ := id hZ
  have hw9 := zhw hs1 hs2 hs3 hs4
  have hR1 := recR_RI hR
  obtain ⟨hU1, hZ1, hO1, hH1⟩ := id hR1
  have e39 : recR M 39 = M 39 := recR_off (by decide) (by decide)
  have l9 : (lsR (recR M) (recR M 39 0 * recR M 39 1)) 39 = M 39 := (lsR_off (by decide)).trans e39
  have lz : zRf ((lsR (recR M) (recR M 39 0 * recR M 39 1)) 39) := by rw [l9]; exact hZ
  have lu : TbR (lsR (recR M) (recR M 39 0 * recR M 39 1)) := TbR_congr (lsR_off (by decide)) (lsR_off (by decide)) hU1
  have lo : TOk (tsZ ((lsR (recR M) (recR M 39 0 * recR M 39 1)) 39)) := by rw [l9]; exact hO
  have lb : ∀ i : Int, 0 ≤ i → i < M 39 0 * M 39 1 → -6 ≤ (lsR (recR M) (recR M 39 0 * recR M 39 1)) 45 i ∧ (lsR (recR M) (recR M 39 0 * recR M 39 1)) 45 i < 47 := fun i a b => by
    rw [lsR_at (by rw [e39]; omega)]
    exact saT_Ok hO1 _ _
  have mz : zRf ((zup (lsR (recR M) (recR M 39 0 * recR M 39 1)) 39 2 (zbz b)) 39) := zRf_O lz
  have mo : TOk (tsZ ((zup (lsR (recR M) (recR M 39 0 * recR M 39 1)) 39 2 (zbz b)) 39)) := by rw [tsZ_O]; exact TOk_O lo
  have mu : TbR (zup (lsR (recR M) (recR M 39 0 * recR M 39 1)) 39 2 (zbz b)) := TbR_congr (zup_ne (by decide)) (zup_ne (by decide)) lu
  have mb : ∀ i : Int, 0 ≤ i → i < (zup (lsR (recR M) (recR M 39 0 * recR M 39 1)) 39 2 (zbz b)) 39 0 * (zup (lsR (recR M) (recR M 39 0 * recR M 39 1)) 39 2 (zbz b)) 39 1 → -6 ≤ (zup (lsR (recR M) (recR M 39 0 * recR M 39 1)) 39 2 (zbz b)) 45 i ∧ (zup (lsR (recR M) (recR M 39 0 * recR M 39 1)) 39 2 (zbz b)) 45 i < 47 := fun i a c => by
    rw [zup_off (by decide), zup_off (by decide), l9] at c
    rw [zup_ne (by decide)]
    exact lb i a c
  refine z_met (by decide) rfl (Nat.le_of_ble_eq_true rfl) (fun X hc he => ?_)
  show zJW X 0 [(0, zR 38), (1, zI (zbz b))] [] M
  refine z_ald (pc := 0) hc 0 rfl dX6_setOutside_0 ?_
  refine kc_X6_77 (pc := 1) hc rfl (zfitX (by decide) rfl rfl) rfl (Nat.le_of_ble_eq_true rfl) (ct_X6_record M (by assumption) ) dX6_setOutside_1 ?_
  refine z_ald (pc := 4) hc 0 rfl dX6_setOutside_4 ?_
  refine kc_X6_119 (pc := 5) hc rfl (zfitX (by decide) rfl rfl) rfl (Nat.le_of_ble_eq_true rfl) (ct_X6_lookShapes (recR M) (by assumption) (by assumption) ) dX6_setOutside_5 ?_
  refine z_ald (pc := 8) hc 0 rfl dX6_setOutside_8 ?_
  refine fg_X6_7 (pc := 9) hc rfl rfl dX6_setOutside_9 ?_
  refine z_iconst (pc := 12) hc 2 dX6_setOutside_12 ?_
  refine z_ild (pc := 13) hc 1 rfl dX6_setOutside_13 ?_
  have hJ22 : zJW X 22 [(0, zR 38), (1, zI (zbz b))] [zI (zbz b), zI 2, zR 39] (lsR (recR M) ((recR M) 39 0 * (recR M) 39 1)) := by
    refine z_iast (pc := 22) hc rfl rfl rfl (by decide) (by omega) dX6_setOutside_22 ?_
    refine z_ald (pc := 23) hc 0 rfl dX6_setOutside_23 ?_
    refine kc_X6_122 (pc := 24) hc rfl (zfitX (by decide) rfl rfl) rfl (Nat.le_of_ble_eq_true rfl) (ct_X6_reshaped (zup (lsR (recR M) ((recR M) 39 0 * (recR M) 39 1)) 39 2 (zbz b)) (by assumption) (by assumption) (by assumption) (by assumption) ) dX6_setOutside_24 ?_
    exact z_iret (pc := 27) hc he rfl dX6_setOutside_27 (⟨rfl, rfl⟩)
  refine z_beq (pc := 14) (tgt := 21) hc (by decide) dX6_setOutside_14 (fun h14 => ?_) (fun h14 => ?_)
  · show zJW X 21 [(0, zR 38), (1, zI (zbz b))] [zI 2, zR 39] (lsR (recR M) ((recR M) 39 0 * (recR M) 39 1))
    refine z_iconst (pc := 21) hc 0 dX6_setOutside_21 ?_
    exact zJW_eq (by rfl) (by rw [h14]; rfl) (by rfl) hJ22
  · show zJW X 17 [(0, zR 38), (1, zI (zbz b))] [zI 2, zR 39] (lsR (recR M) ((recR M) 39 0 * (recR M) 39 1))
    refine z_iconst (pc := 17) hc 1 dX6_setOutside_17 ?_
    refine z_goto (pc := 18) (tgt := 22) hc (by decide) dX6_setOutside_18 ?_
    exact zJW_eq (by rfl) (by rw [h14]; rfl) (by rfl) hJ22

set_option maxRecDepth 100000 in
set_option maxHeartbeats 4000000 in
theorem ct_X6_set (M : Mem) (hR : RI M) (r : Int) (hb_r : -2147483648 ≤ r ∧ r < 2147483648) (c : Int) (hb_c : -2147483648 ≤ c ∧ c < 2147483648) (b : Bool)  : zCt yX6_set KX6_set [zR 38, zI r, zI c, zI (zbz b)] M (fun zv zM => zv = some (if inT (tsZ (M 39)) r c = true then rsC (becR (lsR (recR M) (recR M 39 0 * recR M 39 1)) (M 39 1 * r + c) b) else -1) ∧ zM = (if inT (tsZ (M 39)) r c = true then (becR (lsR (recR M) (recR M 39 0 * recR M 39 1)) (M 39 1 * r + c) b) else M)) := by
  obtain ⟨hU, hZ, hO, hH⟩ := id hR
  obtain ⟨hs1, hs2, hs3, hs4, hs5, hs6, hs7⟩ := id hZ
  have hw9 := zhw hs1 hs2 hs3 hs4
  have hR1 := recR_RI hR
  obtain ⟨hU1, hZ1, hO1, hH1⟩ := id hR1
  have e39 : recR M 39 = M 39 := recR_off (by decide) (by decide)
  have l9 : (lsR (recR M) (recR M 39 0 * recR M 39 1)) 39 = M 39 := (lsR_off (by decide)).trans e39
  have lz : zRf ((lsR (recR M) (recR M 39 0 * recR M 39 1)) 39) := by rw [l9]; exact hZ
  have lu : TbR (lsR (recR M) (recR M 39 0 * recR M 39 1)) := TbR_congr (lsR_off (by decide)) (lsR_off (by decide)) hU1
  have lo : TOk (tsZ ((lsR (recR M) (recR M 39 0 * recR M 39 1)) 39)) := by rw [l9]; exact hO
  have lb : ∀ i : Int, 0 ≤ i → i < M 39 0 * M 39 1 → -6 ≤ (lsR (recR M) (recR M 39 0 * recR M 39 1)) 45 i ∧ (lsR (recR M) (recR M 39 0 * recR M 39 1)) 45 i < 47 := fun i a b => by
    rw [lsR_at (by rw [e39]; omega)]
    exact saT_Ok hO1 _ _
  refine z_met (by decide) rfl (Nat.le_of_ble_eq_true rfl) (fun X hc he => ?_)
  show zJW X 0 [(0, zR 38), (1, zI r), (2, zI c), (3, zI (zbz b))] [] M
  refine z_ald (pc := 0) hc 0 rfl dX6_set_0 ?_
  refine z_ild (pc := 1) hc 1 rfl dX6_set_1 ?_
  refine z_ild (pc := 2) hc 2 rfl dX6_set_2 ?_
  refine kc_X6_90 (pc := 3) hc rfl (zfitX (by decide) rfl rfl) rfl (Nat.le_of_ble_eq_true rfl) (ct_X6_isTile M (by assumption) r (by omega) c (by omega)) dX6_set_3 ?_
  refine z_bne (pc := 6) (tgt := 11) hc (by decide) dX6_set_6 (fun h6 => ?_) (fun h6 => ?_)
  · show zJW X 11 [(0, zR 38), (1, zI r), (2, zI c), (3, zI (zbz b))] [] M
    have h6' := h6
    rw [inT_Z] at h6'
    have h6' := of_decide_eq_true h6'
    have ix6 := zix ⟨h6'.1, h6'.2.1⟩ ⟨h6'.2.2.1, h6'.2.2.2⟩
    have bz : zRf ((becR (lsR (recR M) (recR M 39 0 * recR M 39 1)) (M 39 1 * r + c) b) 39) := zRf_bec lz (by omega)
    have bo : TOk (tsZ ((becR (lsR (recR M) (recR M 39 0 * recR M 39 1)) (M 39 1 * r + c) b) 39)) := by
      have e1 : M 39 1 = (lsR (recR M) (recR M 39 0 * recR M 39 1)) 39 1 := by rw [l9]
      rw [e1, tsZ_bec lz (by rw [l9]; omega) (by rw [l9]; omega), tsB_S lo (by rw [l9]; exact h6)]
      exact TOk_S lo
    have bu : TbR (becR (lsR (recR M) (recR M 39 0 * recR M 39 1)) (M 39 1 * r + c) b) := TbR_congr (becR_off (by decide)) (becR_off (by decide)) lu
    have bb : ∀ i : Int, 0 ≤ i → i < (becR (lsR (recR M) (recR M 39 0 * recR M 39 1)) (M 39 1 * r + c) b) 39 0 * (becR (lsR (recR M) (recR M 39 0 * recR M 39 1)) (M 39 1 * r + c) b) 39 1 → -6 ≤ (becR (lsR (recR M) (recR M 39 0 * recR M 39 1)) (M 39 1 * r + c) b) 45 i ∧ (becR (lsR (recR M) (recR M 39 0 * recR M 39 1)) (M 39 1 * r + c) b) 45 i < 47 := fun i a d => by
      rw [becR_z (by omega) (by omega), becR_z (by omega) (by omega), l9] at d
      rw [becR_off (by decide)]
      exact lb i a d
    refine z_ald (pc := 11) hc 0 rfl dX6_set_11 ?_
    refine kc_X6_77 (pc := 12) hc rfl (zfitX (by decide) rfl rfl) rfl (Nat.le_of_ble_eq_true rfl) (ct_X6_record M (by assumption) ) dX6_set_12 ?_
    refine z_ald (pc := 15) hc 0 rfl dX6_set_15 ?_
    refine kc_X6_119 (pc := 16) hc rfl (zfitX (by decide) rfl rfl) rfl (Nat.le_of_ble_eq_true rfl) (ct_X6_lookShapes (recR M) (by assumption) (by assumption) ) dX6_set_16 ?_
    refine z_ald (pc := 19) hc 0 rfl dX6_set_19 ?_
    refine z_ald (pc := 20) hc 0 rfl dX6_set_20 ?_
    refine z_ild (pc := 21) hc 1 rfl dX6_set_21 ?_
    refine z_ild (pc := 22) hc 2 rfl dX6_set_22 ?_
    refine kc_X6_94 (pc := 23) hc rfl (zfitX (by decide) rfl rfl) rfl (Nat.le_of_ble_eq_true rfl) (ct_X6_at (lsR (recR M) ((recR M) 39 0 * (recR M) 39 1)) r c) dX6_set_23 ?_
    rw [l9]
    refine z_ild (pc := 26) hc 3 rfl dX6_set_26 ?_
    refine kc_X6_125 (pc := 27) hc rfl (zfitX (by decide) rfl rfl) rfl (Nat.le_of_ble_eq_true rfl) (ct_X6_becomes (lsR (recR M) ((recR M) 39 0 * (recR M) 39 1)) (by assumption) (M 39 1 * r + c) (by omega) b) dX6_set_27 ?_
    refine z_pop (pc := 30) hc rfl dX6_set_30 ?_
    refine z_ald (pc := 31) hc 0 rfl dX6_set_31 ?_
    refine kc_X6_122 (pc := 32) hc rfl (zfitX (by decide) rfl rfl) rfl (Nat.le_of_ble_eq_true rfl) (ct_X6_reshaped (becR (lsR (recR M) ((recR M) 39 0 * (recR M) 39 1)) (M 39 1 * r + c) b) (by assumption) (by assumption) (by assumption) (by assumption) ) dX6_set_32 ?_
    exact z_iret (pc := 35) hc he rfl dX6_set_35 (⟨by rw [if_pos h6], by rw [if_pos h6]⟩)
  · show zJW X 9 [(0, zR 38), (1, zI r), (2, zI c), (3, zI (zbz b))] [] M
    refine z_iconst (pc := 9) hc (-1) dX6_set_9 ?_
    exact z_iret (pc := 10) hc he rfl dX6_set_10 (⟨by rw [h6]; rfl, by rw [h6]; rfl⟩)
