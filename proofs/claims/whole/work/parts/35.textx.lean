set_option maxRecDepth 100000 in
set_option maxHeartbeats 4000000 in
theorem ct_X4_columnsLeft (M : Mem) (hV : zxV (zmX M))  : zCt yX4_columnsLeft KX4_columnsLeft [zR 36] M (fun zv zM => zv = some (zxL (zmX M)) ∧ zM = M) := by
  obtain ⟨v1, v2, v3, v4, v5, v6, v7, v8⟩ := id hV
  obtain ⟨l1, l2, l3⟩ := zxV_L hV
  obtain ⟨n1, n2⟩ := zxN_bd hV
  dsimp only [zmX] at v1 v2 v3 v5 v6 v7 v8 l3
  refine z_met (by decide) rfl (Nat.le_of_ble_eq_true rfl) (fun X hc he => ?_)
  show zJW X 0 [(0, zR 36)] [] M
  refine z_ald (pc := 0) hc 0 rfl dX4_columnsLeft_0 ?_
  refine fg_X4_26 (pc := 1) hc rfl rfl dX4_columnsLeft_1 ?_
  refine z_ine (pc := 4) (tgt := 12) hc (by omega) (by decide) dX4_columnsLeft_4 (fun h4 => ?_) (fun h4 => ?_)
  · show zJW X 12 [(0, zR 36)] [] M
    refine z_ald (pc := 12) hc 0 rfl dX4_columnsLeft_12 ?_
    refine fg_X4_32 (pc := 13) hc rfl rfl dX4_columnsLeft_13 ?_
    refine z_ald (pc := 16) hc 0 rfl dX4_columnsLeft_16 ?_
    refine fg_X4_29 (pc := 17) hc rfl rfl dX4_columnsLeft_17 ?_
    refine z_isub (pc := 20) hc dX4_columnsLeft_20 ?_
    exact z_iret (pc := 21) hc he rfl dX4_columnsLeft_21 (by refine ⟨congrArg some ?_, rfl⟩; show _ = (if M 36 3 = 0 then 12 else M 36 5) - M 36 4; first | (rw [if_pos (by omega)]; done) | (rw [if_neg (by omega)]))
  · show zJW X 7 [(0, zR 36)] [] M
    refine z_bipush (pc := 7) hc 12 (by decide) dX4_columnsLeft_7 ?_
    refine z_goto (pc := 9) (tgt := 16) hc (by decide) dX4_columnsLeft_9 ?_
    refine z_ald (pc := 16) hc 0 rfl dX4_columnsLeft_16 ?_
    refine fg_X4_29 (pc := 17) hc rfl rfl dX4_columnsLeft_17 ?_
    refine z_isub (pc := 20) hc dX4_columnsLeft_20 ?_
    exact z_iret (pc := 21) hc he rfl dX4_columnsLeft_21 (by refine ⟨congrArg some ?_, rfl⟩; show _ = (if M 36 3 = 0 then 12 else M 36 5) - M 36 4; first | (rw [if_pos (by omega)]; done) | (rw [if_neg (by omega)]))

set_option maxRecDepth 100000 in
set_option maxHeartbeats 4000000 in
theorem ct_X4_rowCanEnd (M : Mem) (hV : zxV (zmX M))  : zCt yX4_rowCanEnd KX4_rowCanEnd [zR 36] M (fun zv zM => zv = some (zbz (zxE (zmX M))) ∧ zM = M) := by
  obtain ⟨v1, v2, v3, v4, v5, v6, v7, v8⟩ := id hV
  obtain ⟨l1, l2, l3⟩ := zxV_L hV
  obtain ⟨n1, n2⟩ := zxN_bd hV
  dsimp only [zmX] at v1 v2 v3 v5 v6 v7 v8 l3
  refine z_met (by decide) rfl (Nat.le_of_ble_eq_true rfl) (fun X hc he => ?_)
  show zJW X 0 [(0, zR 36)] [] M
  refine z_ald (pc := 0) hc 0 rfl dX4_rowCanEnd_0 ?_
  refine fg_X4_29 (pc := 1) hc rfl rfl dX4_rowCanEnd_1 ?_
  refine z_ile (pc := 4) (tgt := 29) hc (by omega) (by decide) dX4_rowCanEnd_4 (fun h4 => ?_) (fun h4 => ?_)
  · show zJW X 29 [(0, zR 36)] [] M
    refine z_iconst (pc := 29) hc 0 dX4_rowCanEnd_29 ?_
    exact z_bret (pc := 30) (a := false) hc he rfl dX4_rowCanEnd_30 (by refine ⟨?_, rfl⟩; congr 2; (first | exact (decide_eq_true (by dsimp only [zmX]; omega)).symm | exact (decide_eq_false (by dsimp only [zmX]; omega)).symm))
  · show zJW X 7 [(0, zR 36)] [] M
    refine z_ald (pc := 7) hc 0 rfl dX4_rowCanEnd_7 ?_
    refine fg_X4_26 (pc := 8) hc rfl rfl dX4_rowCanEnd_8 ?_
    refine z_ieq (pc := 11) (tgt := 25) hc (by omega) (by decide) dX4_rowCanEnd_11 (fun h11 => ?_) (fun h11 => ?_)
    · show zJW X 25 [(0, zR 36)] [] M
      refine z_iconst (pc := 25) hc 1 dX4_rowCanEnd_25 ?_
      refine z_goto (pc := 26) (tgt := 30) hc (by decide) dX4_rowCanEnd_26 ?_
      exact z_bret (pc := 30) (a := true) hc he rfl dX4_rowCanEnd_30 (by refine ⟨?_, rfl⟩; congr 2; (first | exact (decide_eq_true (by dsimp only [zmX]; omega)).symm | exact (decide_eq_false (by dsimp only [zmX]; omega)).symm))
    · show zJW X 14 [(0, zR 36)] [] M
      refine z_ald (pc := 14) hc 0 rfl dX4_rowCanEnd_14 ?_
      refine fg_X4_29 (pc := 15) hc rfl rfl dX4_rowCanEnd_15 ?_
      refine z_ald (pc := 18) hc 0 rfl dX4_rowCanEnd_18 ?_
      refine fg_X4_32 (pc := 19) hc rfl rfl dX4_rowCanEnd_19 ?_
      refine z_cne (pc := 22) (tgt := 29) hc (by omega) (by decide) dX4_rowCanEnd_22 (fun h22 => ?_) (fun h22 => ?_)
      · show zJW X 29 [(0, zR 36)] [] M
        refine z_iconst (pc := 29) hc 0 dX4_rowCanEnd_29 ?_
        exact z_bret (pc := 30) (a := false) hc he rfl dX4_rowCanEnd_30 (by refine ⟨?_, rfl⟩; congr 2; (first | exact (decide_eq_true (by dsimp only [zmX]; omega)).symm | exact (decide_eq_false (by dsimp only [zmX]; omega)).symm))
      · show zJW X 25 [(0, zR 36)] [] M
        refine z_iconst (pc := 25) hc 1 dX4_rowCanEnd_25 ?_
        refine z_goto (pc := 26) (tgt := 30) hc (by decide) dX4_rowCanEnd_26 ?_
        exact z_bret (pc := 30) (a := true) hc he rfl dX4_rowCanEnd_30 (by refine ⟨?_, rfl⟩; congr 2; (first | exact (decide_eq_true (by dsimp only [zmX]; omega)).symm | exact (decide_eq_false (by dsimp only [zmX]; omega)).symm))

set_option maxRecDepth 100000 in
set_option maxHeartbeats 4000000 in
theorem ct_X4_acceptsRowEnd (M : Mem) (hV : zxV (zmX M))  : zCt yX4_acceptsRowEnd KX4_acceptsRowEnd [zR 36] M (fun zv zM => zv = some (zbz (zxRB (zmX M))) ∧ zM = (if zxRB (zmX M) = true then rwX M else M)) := by
  obtain ⟨v1, v2, v3, v4, v5, v6, v7, v8⟩ := id hV
  obtain ⟨l1, l2, l3⟩ := zxV_L hV
  obtain ⟨n1, n2⟩ := zxN_bd hV
  dsimp only [zmX] at v1 v2 v3 v5 v6 v7 v8 l3
  refine z_met (by decide) rfl (Nat.le_of_ble_eq_true rfl) (fun X hc he => ?_)
  show zJW X 0 [(0, zR 36)] [] M
  refine z_ald (pc := 0) hc 0 rfl dX4_acceptsRowEnd_0 ?_
  refine fg_X4_35 (pc := 1) hc rfl rfl dX4_acceptsRowEnd_1 ?_
  refine z_ine (pc := 4) (tgt := 23) hc (by omega) (by decide) dX4_acceptsRowEnd_4 (fun h4 => ?_) (fun h4 => ?_)
  · show zJW X 23 [(0, zR 36)] [] M
    refine z_iconst (pc := 23) hc 0 dX4_acceptsRowEnd_23 ?_
    exact z_bret (pc := 24) (a := false) hc he rfl dX4_acceptsRowEnd_24 (by have hz : zxRB (zmX M) = false := (by unfold zxRB; first | (rw [h11, Bool.and_false, Bool.false_and]; done) | (rw [decide_eq_false (show ¬ (zmX M).2.2.2 = 0 by show ¬ M 36 6 = 0; omega), Bool.false_and, Bool.false_and]; done) | (rw [decide_eq_false (show ¬ (zmX M).1 < 11 by show ¬ M 36 3 < 11; omega), Bool.and_false])); exact ⟨by rw [hz] <;> rfl, by rw [hz] <;> rfl⟩)
  · show zJW X 7 [(0, zR 36)] [] M
    refine z_ald (pc := 7) hc 0 rfl dX4_acceptsRowEnd_7 ?_
    refine kc_X4_46 (pc := 8) hc rfl (zfitX (by decide) rfl rfl) rfl (Nat.le_of_ble_eq_true rfl) (ct_X4_rowCanEnd M (by assumption) ) dX4_acceptsRowEnd_8 ?_
    refine z_beq (pc := 11) (tgt := 23) hc (by decide) dX4_acceptsRowEnd_11 (fun h11 => ?_) (fun h11 => ?_)
    · show zJW X 23 [(0, zR 36)] [] M
      refine z_iconst (pc := 23) hc 0 dX4_acceptsRowEnd_23 ?_
      exact z_bret (pc := 24) (a := false) hc he rfl dX4_acceptsRowEnd_24 (by have hz : zxRB (zmX M) = false := (by unfold zxRB; first | (rw [h11, Bool.and_false, Bool.false_and]; done) | (rw [decide_eq_false (show ¬ (zmX M).2.2.2 = 0 by show ¬ M 36 6 = 0; omega), Bool.false_and, Bool.false_and]; done) | (rw [decide_eq_false (show ¬ (zmX M).1 < 11 by show ¬ M 36 3 < 11; omega), Bool.and_false])); exact ⟨by rw [hz] <;> rfl, by rw [hz] <;> rfl⟩)
    · show zJW X 14 [(0, zR 36)] [] M
      refine z_ald (pc := 14) hc 0 rfl dX4_acceptsRowEnd_14 ?_
      refine fg_X4_26 (pc := 15) hc rfl rfl dX4_acceptsRowEnd_15 ?_
      refine z_bipush (pc := 18) hc 11 (by decide) dX4_acceptsRowEnd_18 ?_
      refine z_clt (pc := 20) (tgt := 25) hc (by omega) (by decide) dX4_acceptsRowEnd_20 (fun h20 => ?_) (fun h20 => ?_)
      · show zJW X 25 [(0, zR 36)] [] M
        refine z_ald (pc := 25) hc 0 rfl dX4_acceptsRowEnd_25 ?_
        refine z_ald (pc := 26) hc 0 rfl dX4_acceptsRowEnd_26 ?_
        refine fg_X4_29 (pc := 27) hc rfl rfl dX4_acceptsRowEnd_27 ?_
        have hz : zxRB (zmX M) = true := by
          unfold zxRB
          rw [h11, decide_eq_true (show (zmX M).2.2.2 = 0 from by show M 36 6 = 0; omega), decide_eq_true (show (zmX M).1 < 11 from by show M 36 3 < 11; omega)]
          rfl
        refine fp_X4_32 (pc := 30) hc rfl rfl dX4_acceptsRowEnd_30 ?_
        refine z_ald (pc := 33) hc 0 rfl dX4_acceptsRowEnd_33 ?_
        refine z_dup (pc := 34) hc rfl dX4_acceptsRowEnd_34 ?_
        refine fg_X4_26 (pc := 35) hc rfl rfl dX4_acceptsRowEnd_35 ?_
        refine z_iconst (pc := 38) hc 1 dX4_acceptsRowEnd_38 ?_
        refine z_iadd (pc := 39) hc dX4_acceptsRowEnd_39 ?_
        refine fp_X4_26 (pc := 40) hc rfl rfl dX4_acceptsRowEnd_40 ?_
        refine z_ald (pc := 43) hc 0 rfl dX4_acceptsRowEnd_43 ?_
        refine z_iconst (pc := 44) hc 0 dX4_acceptsRowEnd_44 ?_
        refine fp_X4_29 (pc := 45) hc rfl rfl dX4_acceptsRowEnd_45 ?_
        refine z_iconst (pc := 48) hc 1 dX4_acceptsRowEnd_48 ?_
        exact z_bret (pc := 49) (a := true) hc he rfl dX4_acceptsRowEnd_49 (⟨by rw [hz] <;> rfl, by rw [if_pos hz] <;> rfl⟩)
      · show zJW X 23 [(0, zR 36)] [] M
        refine z_iconst (pc := 23) hc 0 dX4_acceptsRowEnd_23 ?_
        exact z_bret (pc := 24) (a := false) hc he rfl dX4_acceptsRowEnd_24 (by have hz : zxRB (zmX M) = false := (by unfold zxRB; first | (rw [h11, Bool.and_false, Bool.false_and]; done) | (rw [decide_eq_false (show ¬ (zmX M).2.2.2 = 0 by show ¬ M 36 6 = 0; omega), Bool.false_and, Bool.false_and]; done) | (rw [decide_eq_false (show ¬ (zmX M).1 < 11 by show ¬ M 36 3 < 11; omega), Bool.and_false])); exact ⟨by rw [hz] <;> rfl, by rw [hz] <;> rfl⟩)

set_option maxRecDepth 100000 in
set_option maxHeartbeats 4000000 in
theorem ct_X4_acceptsRun (M : Mem) (hV : zxV (zmX M)) (hS : zSk M 8) (b : Bool) : zCt yX4_acceptsRun KX4_acceptsRun [zR 36, zI (zbz b)] M (fun zv zM => zv = some (zbz (zxRR (zmX M))) ∧ zM = (if zxRR (zmX M) = true then rnX M b else M)) := by
  obtain ⟨v1, v2, v3, v4, v5, v6, v7, v8⟩ := id hV
  obtain ⟨l1, l2, l3⟩ := zxV_L hV
  obtain ⟨n1, n2⟩ := zxN_bd hV
  dsimp only [zmX] at v1 v2 v3 v5 v6 v7 v8 l3
  refine z_met (by decide) rfl (Nat.le_of_ble_eq_true rfl) (fun X hc he => ?_)
  show zJW X 0 [(0, zR 36), (1, zI (zbz b))] [] M
  refine z_ald (pc := 0) hc 0 rfl dX4_acceptsRun_0 ?_
  refine fg_X4_35 (pc := 1) hc rfl rfl dX4_acceptsRun_1 ?_
  have hJ15 : zJW X 15 [(0, zR 36), (1, zI (zbz b))] [zI (zxN (zmX M))] M := by
    refine z_ist (pc := 15) (lv' := [(2, zI (zxN (zmX M))), (0, zR 36), (1, zI (zbz b))]) hc rfl (by decide) dX4_acceptsRun_15 ?_
    refine z_ald (pc := 16) hc 1 rfl dX4_acceptsRun_16 ?_
    refine fg_X4_35 (pc := 17) hc rfl rfl dX4_acceptsRun_17 ?_
    refine z_iconst (pc := 20) hc 1 dX4_acceptsRun_20 ?_
    refine z_ceq (pc := 21) (tgt := 32) hc (by omega) (by decide) dX4_acceptsRun_21 (fun h21 => ?_) (fun h21 => ?_)
    · show zJW X 32 [(2, zI (zxN (zmX M))), (0, zR 36), (1, zI (zbz b))] [] M
      refine z_iconst (pc := 32) hc 0 dX4_acceptsRun_32 ?_
      exact z_bret (pc := 33) (a := false) hc he rfl dX4_acceptsRun_33 (by have hz : zxRR (zmX M) = false := decide_eq_false (fun q => by first | exact q.1 (by assumption) | (have := q.2; omega)); exact ⟨by rw [hz] <;> rfl, by rw [hz] <;> rfl⟩)
    · show zJW X 24 [(2, zI (zxN (zmX M))), (0, zR 36), (1, zI (zbz b))] [] M
      refine z_ild (pc := 24) hc 0 rfl dX4_acceptsRun_24 ?_
      refine z_ald (pc := 25) hc 1 rfl dX4_acceptsRun_25 ?_
      refine kc_X4_66 (pc := 26) hc rfl (zfitX (by decide) rfl rfl) rfl (Nat.le_of_ble_eq_true rfl) (ct_X4_columnsLeft M (by assumption) ) dX4_acceptsRun_26 ?_
      refine z_cle (pc := 29) (tgt := 34) hc (by omega) (by decide) dX4_acceptsRun_29 (fun h29 => ?_) (fun h29 => ?_)
      · show zJW X 34 [(2, zI (zxN (zmX M))), (0, zR 36), (1, zI (zbz b))] [] M
        have hz : zxRR (zmX M) = true := decide_eq_true ⟨h21, h29⟩
        refine z_iconst (pc := 34) hc 0 dX4_acceptsRun_34 ?_
        refine z_ist (pc := 35) (lv' := [(3, zI 0), (2, zI (zxN (zmX M))), (0, zR 36), (1, zI (zbz b))]) hc rfl (by decide) dX4_acceptsRun_35 ?_
        refine z_for ((zxN (zmX M)).toNat) (fun i36 => [(3, zI ((i36 : Nat) : Int)), (2, zI (zxN (zmX M))), (0, zR 36), (1, zI (zbz b))]) (fun i36 => (runX M b i36)) (by rfl) (by rfl) ?_ (fun i36 hi36 ih36 => ?_)
        · show zJW X 36 [(3, zI ((((zxN (zmX M)).toNat) : Nat) : Int)), (2, zI (zxN (zmX M))), (0, zR 36), (1, zI (zbz b))] [] (runX M b ((zxN (zmX M)).toNat))
          have p36 := runX_P (b := b) hS ((zxN (zmX M)).toNat)
          have hS36 := p36.1
          have e36 := p36.2 36 (by decide) (by decide)
          refine z_ild (pc := 36) hc 0 rfl dX4_acceptsRun_36 ?_
          refine z_ild (pc := 37) hc 1 rfl dX4_acceptsRun_37 ?_
          refine z_cge (pc := 38) (tgt := 72) hc (by omega) (by decide) dX4_acceptsRun_38 (fun h38 => ?_) (fun h38 => ?_)
          · show zJW X 72 [(3, zI ((((zxN (zmX M)).toNat) : Nat) : Int)), (2, zI (zxN (zmX M))), (0, zR 36), (1, zI (zbz b))] [] (runX M b ((zxN (zmX M)).toNat))
            refine z_ald (pc := 72) hc 2 rfl dX4_acceptsRun_72 ?_
            refine z_dup (pc := 73) hc rfl dX4_acceptsRun_73 ?_
            refine fg_X4_29 (pc := 74) hc rfl rfl dX4_acceptsRun_74 ?_
            rw [e36]
            refine z_ild (pc := 77) hc 1 rfl dX4_acceptsRun_77 ?_
            refine z_iadd (pc := 78) hc dX4_acceptsRun_78 ?_
            refine fp_X4_29 (pc := 79) hc rfl rfl dX4_acceptsRun_79 ?_
            refine z_ald (pc := 82) hc 2 rfl dX4_acceptsRun_82 ?_
            refine z_iconst (pc := 83) hc 0 dX4_acceptsRun_83 ?_
            refine fp_X4_35 (pc := 84) hc rfl rfl dX4_acceptsRun_84 ?_
            refine z_iconst (pc := 87) hc 1 dX4_acceptsRun_87 ?_
            exact z_bret (pc := 88) (a := true) hc he rfl dX4_acceptsRun_88 (⟨by rw [hz] <;> rfl, by rw [if_pos hz] <;> rfl⟩)
          · exfalso; omega
        · show zJW X 36 [(3, zI ((i36 : Nat) : Int)), (2, zI (zxN (zmX M))), (0, zR 36), (1, zI (zbz b))] [] (runX M b i36)
          have p36 := runX_P (b := b) hS (i36)
          have hS36 := p36.1
          have e36 := p36.2 36 (by decide) (by decide)
          refine z_ild (pc := 36) hc 0 rfl dX4_acceptsRun_36 ?_
          refine z_ild (pc := 37) hc 1 rfl dX4_acceptsRun_37 ?_
          refine z_cge (pc := 38) (tgt := 72) hc (by omega) (by decide) dX4_acceptsRun_38 (fun h38 => ?_) (fun h38 => ?_)
          · exfalso; omega
          · show zJW X 41 [(3, zI ((i36 : Nat) : Int)), (2, zI (zxN (zmX M))), (0, zR 36), (1, zI (zbz b))] [] (runX M b i36)
            refine z_ild (pc := 41) hc 0 rfl dX4_acceptsRun_41 ?_
            refine z_bipush (pc := 42) hc 12 (by decide) dX4_acceptsRun_42 ?_
            refine z_cge (pc := 44) (tgt := 72) hc (by omega) (by decide) dX4_acceptsRun_44 (fun h44 => ?_) (fun h44 => ?_)
            · exfalso; omega
            · show zJW X 47 [(3, zI ((i36 : Nat) : Int)), (2, zI (zxN (zmX M))), (0, zR 36), (1, zI (zbz b))] [] (runX M b i36)
              refine z_ald (pc := 47) hc 2 rfl dX4_acceptsRun_47 ?_
              refine fg_X4_22 (pc := 48) hc rfl rfl dX4_acceptsRun_48 ?_
              refine z_ald (pc := 51) hc 2 rfl dX4_acceptsRun_51 ?_
              refine fg_X4_26 (pc := 52) hc rfl rfl dX4_acceptsRun_52 ?_
              rw [e36]
              refine z_ald (pc := 55) hc 2 rfl dX4_acceptsRun_55 ?_
              refine fg_X4_29 (pc := 56) hc rfl rfl dX4_acceptsRun_56 ?_
              rw [e36]
              refine z_ild (pc := 59) hc 0 rfl dX4_acceptsRun_59 ?_
              refine z_iadd (pc := 60) hc dX4_acceptsRun_60 ?_
              refine z_ild (pc := 61) hc 3 rfl dX4_acceptsRun_61 ?_
              refine kc_X4_70 (pc := 62) hc rfl (zfitX (by decide) rfl rfl) rfl (by decide) (Nat.le_of_ble_eq_true rfl) (ct_X3_putKind (runX M b i36) 8 (by omega) (by assumption) (M 36 3) ((M 36 4) + ((i36 : Nat) : Int)) (by omega) (by omega) b) dX4_acceptsRun_62 ?_
              refine z_pop (pc := 65) hc rfl dX4_acceptsRun_65 ?_
              refine z_iinc (pc := 66) (lv' := [(3, zI (((i36 : Nat) : Int) + 1)), (2, zI (zxN (zmX M))), (0, zR 36), (1, zI (zbz b))]) hc 0 rfl rfl (by decide) dX4_acceptsRun_66 ?_
              refine z_goto (pc := 69) (tgt := 36) hc (by decide) dX4_acceptsRun_69 ?_
              exact zJW_eq (by rfl) rfl (by rfl) ih36
      · show zJW X 32 [(2, zI (zxN (zmX M))), (0, zR 36), (1, zI (zbz b))] [] M
        refine z_iconst (pc := 32) hc 0 dX4_acceptsRun_32 ?_
        exact z_bret (pc := 33) (a := false) hc he rfl dX4_acceptsRun_33 (by have hz : zxRR (zmX M) = false := decide_eq_false (fun q => by first | exact q.1 (by assumption) | (have := q.2; omega)); exact ⟨by rw [hz] <;> rfl, by rw [hz] <;> rfl⟩)
  refine z_ine (pc := 4) (tgt := 11) hc (by omega) (by decide) dX4_acceptsRun_4 (fun h4 => ?_) (fun h4 => ?_)
  · show zJW X 11 [(0, zR 36), (1, zI (zbz b))] [] M
    refine z_ald (pc := 11) hc 0 rfl dX4_acceptsRun_11 ?_
    refine fg_X4_35 (pc := 12) hc rfl rfl dX4_acceptsRun_12 ?_
    exact zJW_eq (by rfl) (by show _ = [zI (if M 36 6 = 0 then 1 else M 36 6)]; first | (rw [if_pos (by omega)]; done) | (rw [if_neg (by omega)])) (by rfl) hJ15
  · show zJW X 7 [(0, zR 36), (1, zI (zbz b))] [] M
    refine z_iconst (pc := 7) hc 1 dX4_acceptsRun_7 ?_
    refine z_goto (pc := 8) (tgt := 15) hc (by decide) dX4_acceptsRun_8 ?_
    exact zJW_eq (by rfl) (by show _ = [zI (if M 36 6 = 0 then 1 else M 36 6)]; first | (rw [if_pos (by omega)]; done) | (rw [if_neg (by omega)])) (by rfl) hJ15

set_option maxRecDepth 100000 in
set_option maxHeartbeats 4000000 in
theorem ct_X4_acceptsDigit (M : Mem) (hV : zxV (zmX M)) (d : Int) (hd : 0 ≤ d ∧ d ≤ 9) : zCt yX4_acceptsDigit KX4_acceptsDigit [zR 36, zI d] M (fun zv zM => zv = some (zbz (zxD d (zmX M))) ∧ zM = (if zxD d (zmX M) = true then dgX M d else M)) := by
  obtain ⟨v1, v2, v3, v4, v5, v6, v7, v8⟩ := id hV
  obtain ⟨l1, l2, l3⟩ := zxV_L hV
  obtain ⟨n1, n2⟩ := zxN_bd hV
  dsimp only [zmX] at v1 v2 v3 v5 v6 v7 v8 l3
  refine z_met (by decide) rfl (Nat.le_of_ble_eq_true rfl) (fun X hc he => ?_)
  show zJW X 0 [(0, zR 36), (1, zI d)] [] M
  refine z_ald (pc := 0) hc 0 rfl dX4_acceptsDigit_0 ?_
  refine fg_X4_35 (pc := 1) hc rfl rfl dX4_acceptsDigit_1 ?_
  refine z_iconst (pc := 4) hc 1 dX4_acceptsDigit_4 ?_
  refine z_cgt (pc := 5) (tgt := 19) hc (by omega) (by decide) dX4_acceptsDigit_5 (fun h5 => ?_) (fun h5 => ?_)
  · show zJW X 19 [(0, zR 36), (1, zI d)] [] M
    refine z_iconst (pc := 19) hc 0 dX4_acceptsDigit_19 ?_
    exact z_bret (pc := 20) (a := false) hc he rfl dX4_acceptsDigit_20 (by have hz : zxD d (zmX M) = false := decide_eq_false (fun q => by have q1 : M 36 6 ≤ 1 := q.1; have q2 : ¬ (M 36 6 = 0 ∧ d = 0) := q.2.1; omega); exact ⟨by rw [hz] <;> rfl, by rw [hz] <;> rfl⟩)
  · show zJW X 8 [(0, zR 36), (1, zI d)] [] M
    refine z_ald (pc := 8) hc 0 rfl dX4_acceptsDigit_8 ?_
    refine fg_X4_35 (pc := 9) hc rfl rfl dX4_acceptsDigit_9 ?_
    refine z_ine (pc := 12) (tgt := 21) hc (by omega) (by decide) dX4_acceptsDigit_12 (fun h12 => ?_) (fun h12 => ?_)
    · show zJW X 21 [(0, zR 36), (1, zI d)] [] M
      refine z_bipush (pc := 21) hc 10 (by decide) dX4_acceptsDigit_21 ?_
      refine z_ald (pc := 23) hc 0 rfl dX4_acceptsDigit_23 ?_
      refine fg_X4_35 (pc := 24) hc rfl rfl dX4_acceptsDigit_24 ?_
      refine z_imul (pc := 27) hc dX4_acceptsDigit_27 ?_
      refine z_ild (pc := 28) hc 1 rfl dX4_acceptsDigit_28 ?_
      refine z_iadd (pc := 29) hc dX4_acceptsDigit_29 ?_
      refine z_ist (pc := 30) (lv' := [(2, zI ((10 * (M 36 6)) + d)), (0, zR 36), (1, zI d)]) hc rfl (by decide) dX4_acceptsDigit_30 ?_
      refine z_ild (pc := 31) hc 0 rfl dX4_acceptsDigit_31 ?_
      refine z_iconst (pc := 32) hc 1 dX4_acceptsDigit_32 ?_
      have hJ42 : zJW X 42 [(2, zI ((10 * (M 36 6)) + d)), (0, zR 36), (1, zI d)] [zI (if 10 * M 36 6 + d = 1 then 10 else 10 * M 36 6 + d)] M := by
        refine z_ist (pc := 42) (lv' := [(3, zI (if 10 * M 36 6 + d = 1 then 10 else 10 * M 36 6 + d)), (2, zI ((10 * (M 36 6)) + d)), (0, zR 36), (1, zI d)]) hc rfl (by decide) dX4_acceptsDigit_42 ?_
        refine z_ild (pc := 43) hc 0 rfl dX4_acceptsDigit_43 ?_
        refine z_ald (pc := 44) hc 2 rfl dX4_acceptsDigit_44 ?_
        refine kc_X4_66 (pc := 45) hc rfl (zfitX (by decide) rfl rfl) rfl (Nat.le_of_ble_eq_true rfl) (ct_X4_columnsLeft M (by assumption) ) dX4_acceptsDigit_45 ?_
        refine z_cle (pc := 48) (tgt := 53) hc (by split <;> omega) (by decide) dX4_acceptsDigit_48 (fun h48 => ?_) (fun h48 => ?_)
        · show zJW X 53 [(3, zI (if 10 * M 36 6 + d = 1 then 10 else 10 * M 36 6 + d)), (2, zI ((10 * (M 36 6)) + d)), (0, zR 36), (1, zI d)] [] M
          have hz : zxD d (zmX M) = true := decide_eq_true ⟨by show M 36 6 ≤ 1; omega, fun q => by have : M 36 6 = 0 := q.1; omega, h48⟩
          refine z_ald (pc := 53) hc 2 rfl dX4_acceptsDigit_53 ?_
          refine z_ild (pc := 54) hc 1 rfl dX4_acceptsDigit_54 ?_
          refine fp_X4_35 (pc := 55) hc rfl rfl dX4_acceptsDigit_55 ?_
          refine z_iconst (pc := 58) hc 1 dX4_acceptsDigit_58 ?_
          exact z_bret (pc := 59) (a := true) hc he rfl dX4_acceptsDigit_59 (⟨by rw [hz] <;> rfl, by rw [if_pos hz] <;> rfl⟩)
        · show zJW X 51 [(3, zI (if 10 * M 36 6 + d = 1 then 10 else 10 * M 36 6 + d)), (2, zI ((10 * (M 36 6)) + d)), (0, zR 36), (1, zI d)] [] M
          refine z_iconst (pc := 51) hc 0 dX4_acceptsDigit_51 ?_
          exact z_bret (pc := 52) (a := false) hc he rfl dX4_acceptsDigit_52 (by have hz : zxD d (zmX M) = false := decide_eq_false (fun q => absurd q.2.2 (Int.not_le.mpr h48)); exact ⟨by rw [hz] <;> rfl, by rw [hz] <;> rfl⟩)
      refine z_cne (pc := 33) (tgt := 41) hc (by omega) (by decide) dX4_acceptsDigit_33 (fun h33 => ?_) (fun h33 => ?_)
      · show zJW X 41 [(2, zI ((10 * (M 36 6)) + d)), (0, zR 36), (1, zI d)] [] M
        refine z_ild (pc := 41) hc 0 rfl dX4_acceptsDigit_41 ?_
        exact zJW_eq (by rfl) (by first | (rw [if_pos (by omega)]; done) | (rw [if_neg (by omega)])) (by rfl) hJ42
      · show zJW X 36 [(2, zI ((10 * (M 36 6)) + d)), (0, zR 36), (1, zI d)] [] M
        refine z_bipush (pc := 36) hc 10 (by decide) dX4_acceptsDigit_36 ?_
        refine z_goto (pc := 38) (tgt := 42) hc (by decide) dX4_acceptsDigit_38 ?_
        exact zJW_eq (by rfl) (by first | (rw [if_pos (by omega)]; done) | (rw [if_neg (by omega)])) (by rfl) hJ42
    · show zJW X 15 [(0, zR 36), (1, zI d)] [] M
      refine z_ild (pc := 15) hc 1 rfl dX4_acceptsDigit_15 ?_
      refine z_ine (pc := 16) (tgt := 21) hc (by omega) (by decide) dX4_acceptsDigit_16 (fun h16 => ?_) (fun h16 => ?_)
      · show zJW X 21 [(0, zR 36), (1, zI d)] [] M
        refine z_bipush (pc := 21) hc 10 (by decide) dX4_acceptsDigit_21 ?_
        refine z_ald (pc := 23) hc 0 rfl dX4_acceptsDigit_23 ?_
        refine fg_X4_35 (pc := 24) hc rfl rfl dX4_acceptsDigit_24 ?_
        refine z_imul (pc := 27) hc dX4_acceptsDigit_27 ?_
        refine z_ild (pc := 28) hc 1 rfl dX4_acceptsDigit_28 ?_
        refine z_iadd (pc := 29) hc dX4_acceptsDigit_29 ?_
        refine z_ist (pc := 30) (lv' := [(2, zI ((10 * (M 36 6)) + d)), (0, zR 36), (1, zI d)]) hc rfl (by decide) dX4_acceptsDigit_30 ?_
        refine z_ild (pc := 31) hc 0 rfl dX4_acceptsDigit_31 ?_
        refine z_iconst (pc := 32) hc 1 dX4_acceptsDigit_32 ?_
        have hJ42 : zJW X 42 [(2, zI ((10 * (M 36 6)) + d)), (0, zR 36), (1, zI d)] [zI (if 10 * M 36 6 + d = 1 then 10 else 10 * M 36 6 + d)] M := by
          refine z_ist (pc := 42) (lv' := [(3, zI (if 10 * M 36 6 + d = 1 then 10 else 10 * M 36 6 + d)), (2, zI ((10 * (M 36 6)) + d)), (0, zR 36), (1, zI d)]) hc rfl (by decide) dX4_acceptsDigit_42 ?_
          refine z_ild (pc := 43) hc 0 rfl dX4_acceptsDigit_43 ?_
          refine z_ald (pc := 44) hc 2 rfl dX4_acceptsDigit_44 ?_
          refine kc_X4_66 (pc := 45) hc rfl (zfitX (by decide) rfl rfl) rfl (Nat.le_of_ble_eq_true rfl) (ct_X4_columnsLeft M (by assumption) ) dX4_acceptsDigit_45 ?_
          refine z_cle (pc := 48) (tgt := 53) hc (by split <;> omega) (by decide) dX4_acceptsDigit_48 (fun h48 => ?_) (fun h48 => ?_)
          · show zJW X 53 [(3, zI (if 10 * M 36 6 + d = 1 then 10 else 10 * M 36 6 + d)), (2, zI ((10 * (M 36 6)) + d)), (0, zR 36), (1, zI d)] [] M
            have hz : zxD d (zmX M) = true := decide_eq_true ⟨by show M 36 6 ≤ 1; omega, fun q => by have : M 36 6 = 0 := q.1; omega, h48⟩
            refine z_ald (pc := 53) hc 2 rfl dX4_acceptsDigit_53 ?_
            refine z_ild (pc := 54) hc 1 rfl dX4_acceptsDigit_54 ?_
            refine fp_X4_35 (pc := 55) hc rfl rfl dX4_acceptsDigit_55 ?_
            refine z_iconst (pc := 58) hc 1 dX4_acceptsDigit_58 ?_
            exact z_bret (pc := 59) (a := true) hc he rfl dX4_acceptsDigit_59 (⟨by rw [hz] <;> rfl, by rw [if_pos hz] <;> rfl⟩)
          · show zJW X 51 [(3, zI (if 10 * M 36 6 + d = 1 then 10 else 10 * M 36 6 + d)), (2, zI ((10 * (M 36 6)) + d)), (0, zR 36), (1, zI d)] [] M
            refine z_iconst (pc := 51) hc 0 dX4_acceptsDigit_51 ?_
            exact z_bret (pc := 52) (a := false) hc he rfl dX4_acceptsDigit_52 (by have hz : zxD d (zmX M) = false := decide_eq_false (fun q => absurd q.2.2 (Int.not_le.mpr h48)); exact ⟨by rw [hz] <;> rfl, by rw [hz] <;> rfl⟩)
        refine z_cne (pc := 33) (tgt := 41) hc (by omega) (by decide) dX4_acceptsDigit_33 (fun h33 => ?_) (fun h33 => ?_)
        · show zJW X 41 [(2, zI ((10 * (M 36 6)) + d)), (0, zR 36), (1, zI d)] [] M
          refine z_ild (pc := 41) hc 0 rfl dX4_acceptsDigit_41 ?_
          exact zJW_eq (by rfl) (by first | (rw [if_pos (by omega)]; done) | (rw [if_neg (by omega)])) (by rfl) hJ42
        · show zJW X 36 [(2, zI ((10 * (M 36 6)) + d)), (0, zR 36), (1, zI d)] [] M
          refine z_bipush (pc := 36) hc 10 (by decide) dX4_acceptsDigit_36 ?_
          refine z_goto (pc := 38) (tgt := 42) hc (by decide) dX4_acceptsDigit_38 ?_
          exact zJW_eq (by rfl) (by first | (rw [if_pos (by omega)]; done) | (rw [if_neg (by omega)])) (by rfl) hJ42
      · show zJW X 19 [(0, zR 36), (1, zI d)] [] M
        refine z_iconst (pc := 19) hc 0 dX4_acceptsDigit_19 ?_
        exact z_bret (pc := 20) (a := false) hc he rfl dX4_acceptsDigit_20 (by have hz : zxD d (zmX M) = false := decide_eq_false (fun q => by have q1 : M 36 6 ≤ 1 := q.1; have q2 : ¬ (M 36 6 = 0 ∧ d = 0) := q.2.1; omega); exact ⟨by rw [hz] <;> rfl, by rw [hz] <;> rfl⟩)

set_option maxRecDepth 100000 in
set_option maxHeartbeats 4000000 in
theorem ct_X4_accepts (M : Mem) (hV : zxV (zmX M)) (hS : zSk M 8) (x : Int) (hx : 0 ≤ x ∧ x < 128) : zCt yX4_accepts KX4_accepts [zR 36, zI x] M (fun zv zM => zv = some (zbz (zxB x (zmX M))) ∧ zM = (if zxB x (zmX M) = true then zxX x M else M)) := by
  obtain ⟨v1, v2, v3, v4, v5, v6, v7, v8⟩ := id hV
  obtain ⟨l1, l2, l3⟩ := zxV_L hV
  obtain ⟨n1, n2⟩ := zxN_bd hV
  dsimp only [zmX] at v1 v2 v3 v5 v6 v7 v8 l3
  refine z_met (by decide) rfl (Nat.le_of_ble_eq_true rfl) (fun X hc he => ?_)
  show zJW X 0 [(0, zR 36), (1, zI x)] [] M
  refine z_ild (pc := 0) hc 1 rfl dX4_accepts_0 ?_
  refine z_bipush (pc := 1) hc 47 (by decide) dX4_accepts_1 ?_
  refine z_cne (pc := 3) (tgt := 11) hc (by omega) (by decide) dX4_accepts_3 (fun h3 => ?_) (fun h3 => ?_)
  · show zJW X 11 [(0, zR 36), (1, zI x)] [] M
    refine z_ild (pc := 11) hc 1 rfl dX4_accepts_11 ?_
    refine z_bipush (pc := 12) hc 46 (by decide) dX4_accepts_12 ?_
    refine z_ceq (pc := 14) (tgt := 23) hc (by omega) (by decide) dX4_accepts_14 (fun h14 => ?_) (fun h14 => ?_)
    · show zJW X 23 [(0, zR 36), (1, zI x)] [] M
      refine z_ald (pc := 23) hc 0 rfl dX4_accepts_23 ?_
      have hJ35 : zJW X 35 [(0, zR 36), (1, zI x)] [zI (zbz (decide (x = 35))), zR 36] M := by
        refine kc_X4_59 (pc := 35) hc rfl (zfitX (by decide) rfl rfl) rfl (Nat.le_of_ble_eq_true rfl) (ct_X4_acceptsRun M (by assumption) (by assumption) (decide (x = 35))) dX4_accepts_35 ?_
        exact z_bret (pc := 38) (a := (zxRR (zmX M))) hc he rfl dX4_accepts_38 (⟨by unfold zxB; rw [if_neg (show ¬ x = 47 by omega), if_pos (show x = 46 ∨ x = 35 by omega)], by unfold zxB zxX; rw [if_neg (show ¬ x = 47 by omega), if_pos (show x = 46 ∨ x = 35 by omega), if_neg (show ¬ x = 47 by omega), if_pos (show x = 46 ∨ x = 35 by omega)]⟩)
      refine z_ild (pc := 24) hc 1 rfl dX4_accepts_24 ?_
      refine z_bipush (pc := 25) hc 35 (by decide) dX4_accepts_25 ?_
      refine z_cne (pc := 27) (tgt := 34) hc (by omega) (by decide) dX4_accepts_27 (fun h27 => ?_) (fun h27 => ?_)
      · show zJW X 34 [(0, zR 36), (1, zI x)] [zR 36] M
        refine z_iconst (pc := 34) hc 0 dX4_accepts_34 ?_
        exact zJW_eq (by rfl) (by first | (rw [decide_eq_true (by omega)] <;> rfl) | (rw [decide_eq_false (by omega)] <;> rfl)) (by rfl) hJ35
      · show zJW X 30 [(0, zR 36), (1, zI x)] [zR 36] M
        refine z_iconst (pc := 30) hc 1 dX4_accepts_30 ?_
        refine z_goto (pc := 31) (tgt := 35) hc (by decide) dX4_accepts_31 ?_
        exact zJW_eq (by rfl) (by first | (rw [decide_eq_true (by omega)] <;> rfl) | (rw [decide_eq_false (by omega)] <;> rfl)) (by rfl) hJ35
    · show zJW X 17 [(0, zR 36), (1, zI x)] [] M
      refine z_ild (pc := 17) hc 1 rfl dX4_accepts_17 ?_
      refine z_bipush (pc := 18) hc 35 (by decide) dX4_accepts_18 ?_
      refine z_cne (pc := 20) (tgt := 39) hc (by omega) (by decide) dX4_accepts_20 (fun h20 => ?_) (fun h20 => ?_)
      · show zJW X 39 [(0, zR 36), (1, zI x)] [] M
        refine z_ild (pc := 39) hc 1 rfl dX4_accepts_39 ?_
        refine z_bipush (pc := 40) hc 48 (by decide) dX4_accepts_40 ?_
        refine z_clt (pc := 42) (tgt := 66) hc (by omega) (by decide) dX4_accepts_42 (fun h42 => ?_) (fun h42 => ?_)
        · show zJW X 66 [(0, zR 36), (1, zI x)] [] M
          refine z_iconst (pc := 66) hc 0 dX4_accepts_66 ?_
          exact z_bret (pc := 67) (a := false) hc he rfl dX4_accepts_67 (by first | (have hz : zxB x (zmX M) = false := (by unfold zxB; rw [if_neg (show ¬ x = 47 by omega), if_neg (show ¬ (x = 46 ∨ x = 35) by omega), decide_eq_false (by omega)]; rfl); exact ⟨by rw [hz] <;> rfl, by rw [hz] <;> rfl⟩) | (have hz : zxB x (zmX M) = false := (by unfold zxB; rw [if_neg (show ¬ x = 47 by omega), if_neg (show ¬ (x = 46 ∨ x = 35) by omega), h59, Bool.and_false]); exact ⟨by rw [hz] <;> rfl, by rw [hz, h59] <;> rfl⟩) | (have hz : zxB x (zmX M) = true := (by unfold zxB; rw [if_neg (show ¬ x = 47 by omega), if_neg (show ¬ (x = 46 ∨ x = 35) by omega), h59, decide_eq_true (by omega)]; rfl); exact ⟨by rw [hz] <;> rfl, by rw [if_pos hz, if_pos h59]; unfold zxX; rw [if_neg (show ¬ x = 47 by omega), if_neg (show ¬ (x = 46 ∨ x = 35) by omega)]⟩))
        · show zJW X 45 [(0, zR 36), (1, zI x)] [] M
          refine z_ild (pc := 45) hc 1 rfl dX4_accepts_45 ?_
          refine z_bipush (pc := 46) hc 57 (by decide) dX4_accepts_46 ?_
          refine z_cgt (pc := 48) (tgt := 66) hc (by omega) (by decide) dX4_accepts_48 (fun h48 => ?_) (fun h48 => ?_)
          · show zJW X 66 [(0, zR 36), (1, zI x)] [] M
            refine z_iconst (pc := 66) hc 0 dX4_accepts_66 ?_
            exact z_bret (pc := 67) (a := false) hc he rfl dX4_accepts_67 (by first | (have hz : zxB x (zmX M) = false := (by unfold zxB; rw [if_neg (show ¬ x = 47 by omega), if_neg (show ¬ (x = 46 ∨ x = 35) by omega), decide_eq_false (by omega)]; rfl); exact ⟨by rw [hz] <;> rfl, by rw [hz] <;> rfl⟩) | (have hz : zxB x (zmX M) = false := (by unfold zxB; rw [if_neg (show ¬ x = 47 by omega), if_neg (show ¬ (x = 46 ∨ x = 35) by omega), h59, Bool.and_false]); exact ⟨by rw [hz] <;> rfl, by rw [hz, h59] <;> rfl⟩) | (have hz : zxB x (zmX M) = true := (by unfold zxB; rw [if_neg (show ¬ x = 47 by omega), if_neg (show ¬ (x = 46 ∨ x = 35) by omega), h59, decide_eq_true (by omega)]; rfl); exact ⟨by rw [hz] <;> rfl, by rw [if_pos hz, if_pos h59]; unfold zxX; rw [if_neg (show ¬ x = 47 by omega), if_neg (show ¬ (x = 46 ∨ x = 35) by omega)]⟩))
          · show zJW X 51 [(0, zR 36), (1, zI x)] [] M
            refine z_ald (pc := 51) hc 0 rfl dX4_accepts_51 ?_
            refine z_ild (pc := 52) hc 1 rfl dX4_accepts_52 ?_
            refine z_bipush (pc := 53) hc 48 (by decide) dX4_accepts_53 ?_
            refine z_isub (pc := 55) hc dX4_accepts_55 ?_
            refine kc_X4_63 (pc := 56) hc rfl (zfitX (by decide) rfl rfl) rfl (Nat.le_of_ble_eq_true rfl) (ct_X4_acceptsDigit M (by assumption) (x - 48) (by omega)) dX4_accepts_56 ?_
            refine z_beq (pc := 59) (tgt := 66) hc (by decide) dX4_accepts_59 (fun h59 => ?_) (fun h59 => ?_)
            · show zJW X 66 [(0, zR 36), (1, zI x)] [] (if zxD (x - 48) (zmX M) = true then dgX M (x - 48) else M)
              refine z_iconst (pc := 66) hc 0 dX4_accepts_66 ?_
              exact z_bret (pc := 67) (a := false) hc he rfl dX4_accepts_67 (by first | (have hz : zxB x (zmX M) = false := (by unfold zxB; rw [if_neg (show ¬ x = 47 by omega), if_neg (show ¬ (x = 46 ∨ x = 35) by omega), decide_eq_false (by omega)]; rfl); exact ⟨by rw [hz] <;> rfl, by rw [hz] <;> rfl⟩) | (have hz : zxB x (zmX M) = false := (by unfold zxB; rw [if_neg (show ¬ x = 47 by omega), if_neg (show ¬ (x = 46 ∨ x = 35) by omega), h59, Bool.and_false]); exact ⟨by rw [hz] <;> rfl, by rw [hz, h59] <;> rfl⟩) | (have hz : zxB x (zmX M) = true := (by unfold zxB; rw [if_neg (show ¬ x = 47 by omega), if_neg (show ¬ (x = 46 ∨ x = 35) by omega), h59, decide_eq_true (by omega)]; rfl); exact ⟨by rw [hz] <;> rfl, by rw [if_pos hz, if_pos h59]; unfold zxX; rw [if_neg (show ¬ x = 47 by omega), if_neg (show ¬ (x = 46 ∨ x = 35) by omega)]⟩))
            · show zJW X 62 [(0, zR 36), (1, zI x)] [] (if zxD (x - 48) (zmX M) = true then dgX M (x - 48) else M)
              refine z_iconst (pc := 62) hc 1 dX4_accepts_62 ?_
              refine z_goto (pc := 63) (tgt := 67) hc (by decide) dX4_accepts_63 ?_
              exact z_bret (pc := 67) (a := true) hc he rfl dX4_accepts_67 (by first | (have hz : zxB x (zmX M) = false := (by unfold zxB; rw [if_neg (show ¬ x = 47 by omega), if_neg (show ¬ (x = 46 ∨ x = 35) by omega), decide_eq_false (by omega)]; rfl); exact ⟨by rw [hz] <;> rfl, by rw [hz] <;> rfl⟩) | (have hz : zxB x (zmX M) = false := (by unfold zxB; rw [if_neg (show ¬ x = 47 by omega), if_neg (show ¬ (x = 46 ∨ x = 35) by omega), h59, Bool.and_false]); exact ⟨by rw [hz] <;> rfl, by rw [hz, h59] <;> rfl⟩) | (have hz : zxB x (zmX M) = true := (by unfold zxB; rw [if_neg (show ¬ x = 47 by omega), if_neg (show ¬ (x = 46 ∨ x = 35) by omega), h59, decide_eq_true (by omega)]; rfl); exact ⟨by rw [hz] <;> rfl, by rw [if_pos hz, if_pos h59]; unfold zxX; rw [if_neg (show ¬ x = 47 by omega), if_neg (show ¬ (x = 46 ∨ x = 35) by omega)]⟩))
      · show zJW X 23 [(0, zR 36), (1, zI x)] [] M
        refine z_ald (pc := 23) hc 0 rfl dX4_accepts_23 ?_
        have hJ35 : zJW X 35 [(0, zR 36), (1, zI x)] [zI (zbz (decide (x = 35))), zR 36] M := by
          refine kc_X4_59 (pc := 35) hc rfl (zfitX (by decide) rfl rfl) rfl (Nat.le_of_ble_eq_true rfl) (ct_X4_acceptsRun M (by assumption) (by assumption) (decide (x = 35))) dX4_accepts_35 ?_
          exact z_bret (pc := 38) (a := (zxRR (zmX M))) hc he rfl dX4_accepts_38 (⟨by unfold zxB; rw [if_neg (show ¬ x = 47 by omega), if_pos (show x = 46 ∨ x = 35 by omega)], by unfold zxB zxX; rw [if_neg (show ¬ x = 47 by omega), if_pos (show x = 46 ∨ x = 35 by omega), if_neg (show ¬ x = 47 by omega), if_pos (show x = 46 ∨ x = 35 by omega)]⟩)
        refine z_ild (pc := 24) hc 1 rfl dX4_accepts_24 ?_
        refine z_bipush (pc := 25) hc 35 (by decide) dX4_accepts_25 ?_
        refine z_cne (pc := 27) (tgt := 34) hc (by omega) (by decide) dX4_accepts_27 (fun h27 => ?_) (fun h27 => ?_)
        · show zJW X 34 [(0, zR 36), (1, zI x)] [zR 36] M
          refine z_iconst (pc := 34) hc 0 dX4_accepts_34 ?_
          exact zJW_eq (by rfl) (by first | (rw [decide_eq_true (by omega)] <;> rfl) | (rw [decide_eq_false (by omega)] <;> rfl)) (by rfl) hJ35
        · show zJW X 30 [(0, zR 36), (1, zI x)] [zR 36] M
          refine z_iconst (pc := 30) hc 1 dX4_accepts_30 ?_
          refine z_goto (pc := 31) (tgt := 35) hc (by decide) dX4_accepts_31 ?_
          exact zJW_eq (by rfl) (by first | (rw [decide_eq_true (by omega)] <;> rfl) | (rw [decide_eq_false (by omega)] <;> rfl)) (by rfl) hJ35
  · show zJW X 6 [(0, zR 36), (1, zI x)] [] M
    refine z_ald (pc := 6) hc 0 rfl dX4_accepts_6 ?_
    refine kc_X4_56 (pc := 7) hc rfl (zfitX (by decide) rfl rfl) rfl (Nat.le_of_ble_eq_true rfl) (ct_X4_acceptsRowEnd M (by assumption) ) dX4_accepts_7 ?_
    exact z_bret (pc := 10) (a := (zxRB (zmX M))) hc he rfl dX4_accepts_10 (⟨by unfold zxB; rw [if_pos (show x = 47 by omega)], by unfold zxB zxX; rw [if_pos (show x = 47 by omega), if_pos (show x = 47 by omega)]⟩)

set_option maxRecDepth 100000 in
set_option maxHeartbeats 4000000 in
theorem ct_X4_parse (M : Mem) (ho : M 8 2 = 0 ∨ M 8 2 = 1) (hL : 0 ≤ M 36 1 ∧ M 36 1 ≤ 80) (hC : ∀ z : Int, 0 ≤ z → z < 80 → 0 ≤ M 37 z ∧ M 37 z < 128) : zCt yX4_parse KX4_parse [zR 36] M (fun zv zM => zv = some (epT (M 37) (M 36 1).toNat) ∧ zM = paX M) := by
  refine z_met (by decide) rfl (Nat.le_of_ble_eq_true rfl) (fun X hc he => ?_)
  show zJW X 0 [(0, zR 36)] [] M
  refine z_ald (pc := 0) hc 0 rfl dX4_parse_0 ?_
  refine fg_X4_22 (pc := 1) hc rfl rfl dX4_parse_1 ?_
  refine z_bipush (pc := 4) hc 12 (by decide) dX4_parse_4 ?_
  refine z_bipush (pc := 6) hc 12 (by decide) dX4_parse_6 ?_
  refine kc_X4_38 (pc := 8) hc rfl (zfitX (by decide) rfl rfl) rfl (by decide) (Nat.le_of_ble_eq_true rfl) (ct_X3_becomeWater M 8 (by omega) 12 12 (by omega) (by omega)) dX4_parse_8 ?_
  refine z_ald (pc := 11) hc 0 rfl dX4_parse_11 ?_
  refine z_iconst (pc := 12) hc 0 dX4_parse_12 ?_
  refine fp_X4_26 (pc := 13) hc rfl rfl dX4_parse_13 ?_
  refine z_ald (pc := 16) hc 0 rfl dX4_parse_16 ?_
  refine z_iconst (pc := 17) hc 0 dX4_parse_17 ?_
  refine fp_X4_29 (pc := 18) hc rfl rfl dX4_parse_18 ?_
  refine z_ald (pc := 21) hc 0 rfl dX4_parse_21 ?_
  refine z_iconst (pc := 22) hc 0 dX4_parse_22 ?_
  refine fp_X4_32 (pc := 23) hc rfl rfl dX4_parse_23 ?_
  refine z_ald (pc := 26) hc 0 rfl dX4_parse_26 ?_
  refine z_iconst (pc := 27) hc 0 dX4_parse_27 ?_
  refine fp_X4_35 (pc := 28) hc rfl rfl dX4_parse_28 ?_
  refine z_iconst (pc := 31) hc 0 dX4_parse_31 ?_
  refine z_ist (pc := 32) (lv' := [(1, zI 0), (0, zR 36)]) hc rfl (by decide) dX4_parse_32 ?_
  refine z_forI ((M 36 1).toNat) (fun i33 => [(1, zI ((i33 : Nat) : Int)), (0, zR 36)]) (fun i33 => (prX M i33)) (fun i33 => zrep (epE (M 37)) i33 (-6) = -6) (by rfl) (by rfl) (by rfl) (fun hv33 => ?_) (fun i33 hi33 hv33 ih33 => ?_)
  · show zJW X 33 [(1, zI ((((M 36 1).toNat) : Nat) : Int)), (0, zR 36)] [] (prX M ((M 36 1).toNat))
    have a33 := ep_all hv33
    have q33 := prX_P ho a33
    have hV33 : zxV (zmX (prX M ((M 36 1).toNat))) := by rw [q33.2]; exact zsqV a33
    have hS33 := q33.1.1
    have hl33 : prX M ((M 36 1).toNat) 36 1 = M 36 1 := q33.1.2.2.2.2.2 1 (by omega)
    have hc33 : prX M ((M 36 1).toNat) 37 = M 37 := q33.1.2.2.2.2.1 37 (by decide) (by decide) (by decide) (by decide)
    have hw33 := id hV33
    unfold zxV zmX at hw33
    dsimp only at hw33
    refine z_ild (pc := 33) hc 0 rfl dX4_parse_33 ?_
    refine z_ald (pc := 34) hc 1 rfl dX4_parse_34 ?_
    refine fg_X4_15 (pc := 35) hc rfl rfl dX4_parse_35 ?_
    refine z_cge (pc := 38) (tgt := 68) hc (by omega) (by decide) dX4_parse_38 (fun h38 => ?_) (fun h38 => ?_)
    · show zJW X 68 [(1, zI ((((M 36 1).toNat) : Nat) : Int)), (0, zR 36)] [] (prX M ((M 36 1).toNat))
      refine z_ald (pc := 68) hc 1 rfl dX4_parse_68 ?_
      refine fg_X4_35 (pc := 69) hc rfl rfl dX4_parse_69 ?_
      refine z_ine (pc := 72) (tgt := 82) hc (by omega) (by decide) dX4_parse_72 (fun h72 => ?_) (fun h72 => ?_)
      · show zJW X 82 [(1, zI ((((M 36 1).toNat) : Nat) : Int)), (0, zR 36)] [] (prX M ((M 36 1).toNat))
        refine z_ald (pc := 82) hc 1 rfl dX4_parse_82 ?_
        refine fg_X4_15 (pc := 83) hc rfl rfl dX4_parse_83 ?_
        exact z_iret (pc := 86) hc he rfl dX4_parse_86 (by have z := ep_end hv33; have hf : ¬ ((zsq (M 37) (M 36 1).toNat).2.2.2 = 0 ∧ zxE (zsq (M 37) (M 36 1).toNat) = true) := (by rw [← q33.2]; rintro ⟨a, b⟩; first | exact h72 a | (rw [h79] at b; exact absurd b (by decide))); rw [if_neg hf] at z; exact ⟨congrArg some (by rw [z.1]; omega), by rw [paX, if_neg (by rw [z.1]; omega), z.2]⟩)
      · show zJW X 75 [(1, zI ((((M 36 1).toNat) : Nat) : Int)), (0, zR 36)] [] (prX M ((M 36 1).toNat))
        refine z_ald (pc := 75) hc 1 rfl dX4_parse_75 ?_
        refine kc_X4_46 (pc := 76) hc rfl (zfitX (by decide) rfl rfl) rfl (Nat.le_of_ble_eq_true rfl) (ct_X4_rowCanEnd (prX M ((M 36 1).toNat)) (by assumption) ) dX4_parse_76 ?_
        refine z_bne (pc := 79) (tgt := 87) hc (by decide) dX4_parse_79 (fun h79 => ?_) (fun h79 => ?_)
        · show zJW X 87 [(1, zI ((((M 36 1).toNat) : Nat) : Int)), (0, zR 36)] [] (prX M ((M 36 1).toNat))
          refine z_ald (pc := 87) hc 1 rfl dX4_parse_87 ?_
          refine fg_X4_22 (pc := 88) hc rfl rfl dX4_parse_88 ?_
          refine z_ald (pc := 91) hc 1 rfl dX4_parse_91 ?_
          refine fg_X4_26 (pc := 92) hc rfl rfl dX4_parse_92 ?_
          refine z_iconst (pc := 95) hc 1 dX4_parse_95 ?_
          refine z_iadd (pc := 96) hc dX4_parse_96 ?_
          refine fp_X4_50 (pc := 97) hc rfl rfl (by decide) dX4_parse_97 ?_
          refine z_ald (pc := 100) hc 1 rfl dX4_parse_100 ?_
          refine fg_X4_22 (pc := 101) hc rfl rfl dX4_parse_101 ?_
          refine z_ald (pc := 104) hc 1 rfl dX4_parse_104 ?_
          refine fg_X4_29 (pc := 105) hc rfl rfl dX4_parse_105 ?_
          rw [show (zup (prX M (M 36 1).toNat) 8 0 (prX M (M 36 1).toNat 36 3 + 1)) 36 = prX M (M 36 1).toNat 36 from zup_ne (by decide)]
          refine fp_X4_53 (pc := 108) hc rfl rfl (by decide) dX4_parse_108 ?_
          refine z_bipush (pc := 111) hc (-6) (by decide) dX4_parse_111 ?_
          exact z_iret (pc := 113) hc he rfl dX4_parse_113 (by have z := ep_end hv33; have hf : (zsq (M 37) (M 36 1).toNat).2.2.2 = 0 ∧ zxE (zsq (M 37) (M 36 1).toNat) = true := (by rw [← q33.2]; exact ⟨h72, h79⟩); rw [if_pos hf] at z; exact ⟨congrArg some (by rw [z.1]), by rw [paX, if_pos z.1]⟩)
        · show zJW X 82 [(1, zI ((((M 36 1).toNat) : Nat) : Int)), (0, zR 36)] [] (prX M ((M 36 1).toNat))
          refine z_ald (pc := 82) hc 1 rfl dX4_parse_82 ?_
          refine fg_X4_15 (pc := 83) hc rfl rfl dX4_parse_83 ?_
          exact z_iret (pc := 86) hc he rfl dX4_parse_86 (by have z := ep_end hv33; have hf : ¬ ((zsq (M 37) (M 36 1).toNat).2.2.2 = 0 ∧ zxE (zsq (M 37) (M 36 1).toNat) = true) := (by rw [← q33.2]; rintro ⟨a, b⟩; first | exact h72 a | (rw [h79] at b; exact absurd b (by decide))); rw [if_neg hf] at z; exact ⟨congrArg some (by rw [z.1]; omega), by rw [paX, if_neg (by rw [z.1]; omega), z.2]⟩)
    · exfalso; omega
  · show zJW X 33 [(1, zI ((i33 : Nat) : Int)), (0, zR 36)] [] (prX M i33)
    have a33 := ep_all hv33
    have q33 := prX_P ho a33
    have hV33 : zxV (zmX (prX M (i33))) := by rw [q33.2]; exact zsqV a33
    have hS33 := q33.1.1
    have hl33 : prX M (i33) 36 1 = M 36 1 := q33.1.2.2.2.2.2 1 (by omega)
    have hc33 : prX M (i33) 37 = M 37 := q33.1.2.2.2.2.1 37 (by decide) (by decide) (by decide) (by decide)
    have hw33 := id hV33
    unfold zxV zmX at hw33
    dsimp only at hw33
    have hx33 : 0 ≤ M 37 ((i33 : Nat) : Int) ∧ M 37 ((i33 : Nat) : Int) < 128 := hC ((i33 : Nat) : Int) (by omega) (by omega)
    refine z_ild (pc := 33) hc 0 rfl dX4_parse_33 ?_
    refine z_ald (pc := 34) hc 1 rfl dX4_parse_34 ?_
    refine fg_X4_15 (pc := 35) hc rfl rfl dX4_parse_35 ?_
    refine z_cge (pc := 38) (tgt := 68) hc (by omega) (by decide) dX4_parse_38 (fun h38 => ?_) (fun h38 => ?_)
    · exfalso; omega
    · show zJW X 41 [(1, zI ((i33 : Nat) : Int)), (0, zR 36)] [] (prX M i33)
      refine z_ild (pc := 41) hc 0 rfl dX4_parse_41 ?_
      refine z_bipush (pc := 42) hc 80 (by decide) dX4_parse_42 ?_
      refine z_cge (pc := 44) (tgt := 68) hc (by omega) (by decide) dX4_parse_44 (fun h44 => ?_) (fun h44 => ?_)
      · exfalso; omega
      · show zJW X 47 [(1, zI ((i33 : Nat) : Int)), (0, zR 36)] [] (prX M i33)
        refine z_ald (pc := 47) hc 1 rfl dX4_parse_47 ?_
        refine z_ald (pc := 48) hc 1 rfl dX4_parse_48 ?_
        refine fg_X4_9 (pc := 49) hc rfl rfl dX4_parse_49 ?_
        refine z_ild (pc := 52) hc 0 rfl dX4_parse_52 ?_
        refine z_iald (pc := 53) hc rfl rfl rfl (by decide) (by omega) dX4_parse_53 ?_
        rw [hc33]
        refine kc_X4_42 (pc := 54) hc rfl (zfitX (by decide) rfl rfl) rfl (Nat.le_of_ble_eq_true rfl) (ct_X4_accepts (prX M i33) (by assumption) (by assumption) (M 37 ((i33 : Nat) : Int)) (by omega)) dX4_parse_54 ?_
        refine z_bne (pc := 57) (tgt := 62) hc (by decide) dX4_parse_57 (fun h57 => ?_) (fun h57 => ?_)
        · show zJW X 62 [(1, zI ((i33 : Nat) : Int)), (0, zR 36)] [] (if zxB (M 37 ((i33 : Nat) : Int)) (zmX (prX M i33)) = true then zxX (M 37 ((i33 : Nat) : Int)) (prX M i33) else (prX M i33))
          have hb57 := h57
          rw [q33.2] at hb57
          rw [if_pos h57]
          refine z_iinc (pc := 62) (lv' := [(1, zI (((i33 : Nat) : Int) + 1)), (0, zR 36)]) hc 0 rfl rfl (by decide) dX4_parse_62 ?_
          refine z_goto (pc := 65) (tgt := 33) hc (by decide) dX4_parse_65 ?_
          exact zJW_eq (by rfl) rfl (by rfl) (ih33 (by exact ep_s hv33 hb57))
        · show zJW X 60 [(1, zI ((i33 : Nat) : Int)), (0, zR 36)] [] (if zxB (M 37 ((i33 : Nat) : Int)) (zmX (prX M i33)) = true then zxX (M 37 ((i33 : Nat) : Int)) (prX M i33) else (prX M i33))
          refine z_ild (pc := 60) hc 0 rfl dX4_parse_60 ?_
          exact z_iret (pc := 61) hc he rfl dX4_parse_61 (by have hb := h57; rw [q33.2] at hb; have z := ep_at hi33 hv33 hb; exact ⟨congrArg some (by rw [z.1]), by rw [if_neg (by rw [h57]; decide), paX, if_neg (by rw [z.1]; omega), z.2]⟩)

set_option maxRecDepth 100000 in
set_option maxHeartbeats 4000000 in
theorem ct_X5_errorPosition (M : Mem) (ho : M 8 2 = 0 ∨ M 8 2 = 1) (hL : 0 ≤ M 36 1 ∧ M 36 1 ≤ 80) (hC : ∀ z : Int, 0 ≤ z → z < 80 → 0 ≤ M 37 z ∧ M 37 z < 128) : zCt yX5_errorPosition KX5_errorPosition [zR 27] M (fun zv zM => zv = some (epT (M 37) (M 36 1).toNat) ∧ zM = paX M) := by
  refine z_met (by decide) rfl (Nat.le_of_ble_eq_true rfl) (fun X hc he => ?_)
  show zJW X 0 [(0, zR 27)] [] M
  refine z_ald (pc := 0) hc 0 rfl dX5_errorPosition_0 ?_
  refine fg_X5_50 (pc := 1) hc rfl rfl dX5_errorPosition_1 ?_
  refine kc_X5_196 (pc := 4) hc rfl (zfitX (by decide) rfl rfl) rfl (Nat.le_of_ble_eq_true rfl) (ct_X4_parse M (by assumption) (by assumption) (by assumption) ) dX5_errorPosition_4 ?_
  exact z_iret (pc := 7) hc he rfl dX5_errorPosition_7 (⟨rfl, rfl⟩)
