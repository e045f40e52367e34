set_option maxRecDepth 100000 in
set_option maxHeartbeats 4000000 in
theorem ct_X5_turnOnceFromSpare (M : Mem) (hT : TbX M) (hS0 : zSk M 0) (hS1 : zSk M 1) : zCt yX5_turnOnceFromSpare KX5_turnOnceFromSpare [zR 27] M (fun zv zM => zv = none ∧ zM = tuM M) := by
  obtain ⟨hs1, hs2, hs3, hs4, hs5, hs6, hs7⟩ := id hS1
  have hp0 : tuP M (watM M 0 (M 1 1) (M 1 0) 144) := ⟨zSk_watM (by omega) (by omega) hS0.2.2.2.2.1, fun k x y z => watM_off x y z⟩
  have hpb : ∀ r c : Int, -1 ≤ piT (tsX M 1) r c ∧ piT (tsX M 1) r c < 47 := fun r c => piT_bd hS1 r c
  refine z_met (by decide) rfl (Nat.le_of_ble_eq_true rfl) (fun X hc he => ?_)
  show zJW X 0 [(0, zR 27)] [] M
  refine z_ald (pc := 0) hc 0 rfl dX5_turnOnceFromSpare_0 ?_
  refine fg_X5_19 (pc := 1) hc rfl rfl dX5_turnOnceFromSpare_1 ?_
  refine z_ald (pc := 4) hc 0 rfl dX5_turnOnceFromSpare_4 ?_
  refine fg_X5_23 (pc := 5) hc rfl rfl dX5_turnOnceFromSpare_5 ?_
  refine fg_X5_99 (pc := 8) hc rfl rfl (by decide) dX5_turnOnceFromSpare_8 ?_
  refine z_ald (pc := 11) hc 0 rfl dX5_turnOnceFromSpare_11 ?_
  refine fg_X5_23 (pc := 12) hc rfl rfl dX5_turnOnceFromSpare_12 ?_
  refine fg_X5_95 (pc := 15) hc rfl rfl (by decide) dX5_turnOnceFromSpare_15 ?_
  refine kc_X5_62 (pc := 18) hc rfl (zfitX (by decide) rfl rfl) rfl (by decide) (Nat.le_of_ble_eq_true rfl) (ct_X3_becomeWater M 0 (by omega) (M 1 1) (M 1 0) (by omega) (by omega)) dX5_turnOnceFromSpare_18 ?_
  refine z_iconst (pc := 21) hc 0 dX5_turnOnceFromSpare_21 ?_
  refine z_ist (pc := 22) (lv' := [(1, zI 0), (0, zR 27)]) hc rfl (by decide) dX5_turnOnceFromSpare_22 ?_
  refine z_for ((tH (tsX M 1)).toNat) (fun i23 => [(1, zI ((i23 : Nat) : Int)), (0, zR 27)]) (fun i23 => (zrep (tuO (tsX M 1)) i23 (watM M 0 (M 1 1) (M 1 0) 144))) (by rfl) (by rfl) ?_ (fun i23 hi23 ih23 => ?_)
  · show zJW X 23 [(1, zI ((((tH (tsX M 1)).toNat) : Nat) : Int)), (0, zR 27)] [] (zrep (tuO (tsX M 1)) ((tH (tsX M 1)).toNat) (watM M 0 (M 1 1) (M 1 0) 144))
    have hpx : tuP M (zrep (tuO (tsX M 1)) (tH (tsX M 1)).toNat (watM M 0 (M 1 1) (M 1 0) 144)) := zrep_inv (P := tuP M) hp0 _ (fun _ _ _ hx => tuO_P hpb hx)
    have hx1 := congrFun (hpx.2 1 (by decide) (by decide) (by decide)) 0
    have hx2 : tH (tsX M 1) = M 1 0 := rfl
    refine z_ild (pc := 23) hc 0 rfl dX5_turnOnceFromSpare_23 ?_
    refine z_ald (pc := 24) hc 1 rfl dX5_turnOnceFromSpare_24 ?_
    refine fg_X5_23 (pc := 25) hc rfl rfl dX5_turnOnceFromSpare_25 ?_
    refine fg_X5_95 (pc := 28) hc rfl rfl (by decide) dX5_turnOnceFromSpare_28 ?_
    refine z_cge (pc := 31) (tgt := 128) hc (by omega) (by decide) dX5_turnOnceFromSpare_31 (fun h31 => ?_) (fun h31 => ?_)
    · show zJW X 128 [(1, zI ((((tH (tsX M 1)).toNat) : Nat) : Int)), (0, zR 27)] [] (zrep (tuO (tsX M 1)) ((tH (tsX M 1)).toNat) (watM M 0 (M 1 1) (M 1 0) 144))
      exact z_vret (pc := 128) hc he rfl dX5_turnOnceFromSpare_128 (⟨rfl, rfl⟩)
    · exfalso; omega
  · show zJW X 23 [(1, zI ((i23 : Nat) : Int)), (0, zR 27)] [] (zrep (tuO (tsX M 1)) i23 (watM M 0 (M 1 1) (M 1 0) 144))
    have hp23 : tuP M (zrep (tuO (tsX M 1)) i23 (watM M 0 (M 1 1) (M 1 0) 144)) := zrep_inv (P := tuP M) hp0 _ (fun _ _ _ hx => tuO_P hpb hx)
    have hq231 := congrFun (hp23.2 1 (by decide) (by decide) (by decide)) 0
    have hx2 : tH (tsX M 1) = M 1 0 := rfl
    refine z_ild (pc := 23) hc 0 rfl dX5_turnOnceFromSpare_23 ?_
    refine z_ald (pc := 24) hc 1 rfl dX5_turnOnceFromSpare_24 ?_
    refine fg_X5_23 (pc := 25) hc rfl rfl dX5_turnOnceFromSpare_25 ?_
    refine fg_X5_95 (pc := 28) hc rfl rfl (by decide) dX5_turnOnceFromSpare_28 ?_
    refine z_cge (pc := 31) (tgt := 128) hc (by omega) (by decide) dX5_turnOnceFromSpare_31 (fun h31 => ?_) (fun h31 => ?_)
    · exfalso; omega
    · show zJW X 34 [(1, zI ((i23 : Nat) : Int)), (0, zR 27)] [] (zrep (tuO (tsX M 1)) i23 (watM M 0 (M 1 1) (M 1 0) 144))
      refine z_iconst (pc := 34) hc 0 dX5_turnOnceFromSpare_34 ?_
      refine z_ist (pc := 35) (lv' := [(2, zI 0), (1, zI ((i23 : Nat) : Int)), (0, zR 27)]) hc rfl (by decide) dX5_turnOnceFromSpare_35 ?_
      refine z_for ((tW (tsX M 1)).toNat) (fun i36 => [(2, zI ((i36 : Nat) : Int)), (1, zI ((i23 : Nat) : Int)), (0, zR 27)]) (fun i36 => (zrep (tuI (tsX M 1) ((i23 : Nat) : Int)) i36 (zrep (tuO (tsX M 1)) i23 (watM M 0 (M 1 1) (M 1 0) 144)))) (by rfl) (by rfl) ?_ (fun i36 hi36 ih36 => ?_)
      · show zJW X 36 [(2, zI ((((tW (tsX M 1)).toNat) : Nat) : Int)), (1, zI ((i23 : Nat) : Int)), (0, zR 27)] [] (zrep (tuI (tsX M 1) ((i23 : Nat) : Int)) ((tW (tsX M 1)).toNat) (zrep (tuO (tsX M 1)) i23 (watM M 0 (M 1 1) (M 1 0) 144)))
        have hpy : tuP M (zrep (tuI (tsX M 1) ((i23 : Nat) : Int)) (tW (tsX M 1)).toNat (zrep (tuO (tsX M 1)) i23 (watM M 0 (M 1 1) (M 1 0) 144))) := zrep_inv (P := tuP M) hp23 _ (fun _ _ _ hx => tuI_P hpb hx)
        have hy1 := congrFun (hpy.2 1 (by decide) (by decide) (by decide)) 1
        have hy2 : tW (tsX M 1) = M 1 1 := rfl
        refine z_ild (pc := 36) hc 0 rfl dX5_turnOnceFromSpare_36 ?_
        refine z_ald (pc := 37) hc 2 rfl dX5_turnOnceFromSpare_37 ?_
        refine fg_X5_23 (pc := 38) hc rfl rfl dX5_turnOnceFromSpare_38 ?_
        refine fg_X5_99 (pc := 41) hc rfl rfl (by decide) dX5_turnOnceFromSpare_41 ?_
        refine z_cge (pc := 44) (tgt := 122) hc (by omega) (by decide) dX5_turnOnceFromSpare_44 (fun h44 => ?_) (fun h44 => ?_)
        · show zJW X 122 [(2, zI ((((tW (tsX M 1)).toNat) : Nat) : Int)), (1, zI ((i23 : Nat) : Int)), (0, zR 27)] [] (zrep (tuI (tsX M 1) ((i23 : Nat) : Int)) ((tW (tsX M 1)).toNat) (zrep (tuO (tsX M 1)) i23 (watM M 0 (M 1 1) (M 1 0) 144)))
          refine z_iinc (pc := 122) (lv' := [(1, zI (((i23 : Nat) : Int) + 1)), (2, zI ((((tW (tsX M 1)).toNat) : Nat) : Int)), (0, zR 27)]) hc 1 rfl rfl (by decide) dX5_turnOnceFromSpare_122 ?_
          refine z_goto (pc := 125) (tgt := 23) hc (by decide) dX5_turnOnceFromSpare_125 ?_
          refine zJW_sub (lv' := [(1, zI (((i23 : Nat) : Int) + 1)), (0, zR 27)]) [0, 2] rfl ?_
          exact zJW_eq (by rfl) rfl (by rfl) ih23
        · exfalso; omega
      · show zJW X 36 [(2, zI ((i36 : Nat) : Int)), (1, zI ((i23 : Nat) : Int)), (0, zR 27)] [] (zrep (tuI (tsX M 1) ((i23 : Nat) : Int)) i36 (zrep (tuO (tsX M 1)) i23 (watM M 0 (M 1 1) (M 1 0) 144)))
        have hp36 : tuP M (zrep (tuI (tsX M 1) ((i23 : Nat) : Int)) i36 (zrep (tuO (tsX M 1)) i23 (watM M 0 (M 1 1) (M 1 0) 144))) := zrep_inv (P := tuP M) hp23 _ (fun _ _ _ hx => tuI_P hpb hx)
        have hq361 := congrFun (hp36.2 1 (by decide) (by decide) (by decide)) 0
        have hq3611 := congrFun (hp36.2 1 (by decide) (by decide) (by decide)) 1
        obtain ⟨hsp1, hsp2⟩ := tuP_spare hp36 hS1
        have hz36 := hp36.1
        have hy2 : tW (tsX M 1) = M 1 1 := rfl
        refine z_ild (pc := 36) hc 0 rfl dX5_turnOnceFromSpare_36 ?_
        refine z_ald (pc := 37) hc 2 rfl dX5_turnOnceFromSpare_37 ?_
        refine fg_X5_23 (pc := 38) hc rfl rfl dX5_turnOnceFromSpare_38 ?_
        refine fg_X5_99 (pc := 41) hc rfl rfl (by decide) dX5_turnOnceFromSpare_41 ?_
        refine z_cge (pc := 44) (tgt := 122) hc (by omega) (by decide) dX5_turnOnceFromSpare_44 (fun h44 => ?_) (fun h44 => ?_)
        · exfalso; omega
        · show zJW X 47 [(2, zI ((i36 : Nat) : Int)), (1, zI ((i23 : Nat) : Int)), (0, zR 27)] [] (zrep (tuI (tsX M 1) ((i23 : Nat) : Int)) i36 (zrep (tuO (tsX M 1)) i23 (watM M 0 (M 1 1) (M 1 0) 144)))
          refine z_ald (pc := 47) hc 2 rfl dX5_turnOnceFromSpare_47 ?_
          refine fg_X5_23 (pc := 48) hc rfl rfl dX5_turnOnceFromSpare_48 ?_
          refine fg_X5_95 (pc := 51) hc rfl rfl (by decide) dX5_turnOnceFromSpare_51 ?_
          rw [hq361]
          refine z_iconst (pc := 54) hc 1 dX5_turnOnceFromSpare_54 ?_
          refine z_isub (pc := 55) hc dX5_turnOnceFromSpare_55 ?_
          refine z_ild (pc := 56) hc 1 rfl dX5_turnOnceFromSpare_56 ?_
          refine z_isub (pc := 57) hc dX5_turnOnceFromSpare_57 ?_
          refine z_ist (pc := 58) (lv' := [(3, zI (((M 1 0) - 1) - ((i23 : Nat) : Int))), (2, zI ((i36 : Nat) : Int)), (1, zI ((i23 : Nat) : Int)), (0, zR 27)]) hc rfl (by decide) dX5_turnOnceFromSpare_58 ?_
          refine z_ald (pc := 59) hc 3 rfl dX5_turnOnceFromSpare_59 ?_
          refine fg_X5_19 (pc := 60) hc rfl rfl dX5_turnOnceFromSpare_60 ?_
          refine z_ild (pc := 63) hc 1 rfl dX5_turnOnceFromSpare_63 ?_
          refine z_ild (pc := 64) hc 0 rfl dX5_turnOnceFromSpare_64 ?_
          refine z_ald (pc := 65) hc 3 rfl dX5_turnOnceFromSpare_65 ?_
          refine fg_X5_23 (pc := 66) hc rfl rfl dX5_turnOnceFromSpare_66 ?_
          refine z_ild (pc := 69) hc 2 rfl dX5_turnOnceFromSpare_69 ?_
          refine z_ild (pc := 70) hc 1 rfl dX5_turnOnceFromSpare_70 ?_
          refine kc_X5_77 (pc := 71) hc rfl (zfitX (by decide) rfl rfl) rfl (by decide) (Nat.le_of_ble_eq_true rfl) (ct_X3_isLandAt (zrep (tuI (tsX M 1) ((i23 : Nat) : Int)) i36 (zrep (tuO (tsX M 1)) i23 (watM M 0 (M 1 1) (M 1 0) 144))) 1 (by omega) (by first | assumption ) ((i23 : Nat) : Int) ((i36 : Nat) : Int) (by omega) (by omega)) dX5_turnOnceFromSpare_71 ?_
          rw [hsp2]
          refine kc_X5_84 (pc := 74) hc rfl (zfitX (by decide) rfl rfl) rfl (by decide) (Nat.le_of_ble_eq_true rfl) (ct_X3_putKind (zrep (tuI (tsX M 1) ((i23 : Nat) : Int)) i36 (zrep (tuO (tsX M 1)) i23 (watM M 0 (M 1 1) (M 1 0) 144))) 0 (by omega) (by assumption) ((i36 : Nat) : Int) (((M 1 0) - 1) - ((i23 : Nat) : Int)) (by omega) (by omega) (laT (tsX M 1) ((i23 : Nat) : Int) ((i36 : Nat) : Int))) dX5_turnOnceFromSpare_74 ?_
          refine z_pop (pc := 77) hc rfl dX5_turnOnceFromSpare_77 ?_
          have hp9 : tuP M (putK (zrep (tuI (tsX M 1) ((i23 : Nat) : Int)) i36 (zrep (tuO (tsX M 1)) i23 (watM M 0 (M 1 1) (M 1 0) 144))) 0 ((i36 : Nat) : Int) (M 1 0 - 1 - ((i23 : Nat) : Int)) (laT (tsX M 1) ((i23 : Nat) : Int) ((i36 : Nat) : Int))) := ⟨zSk_putK hp36.1, fun k a b c => (putK_off (by omega) (by omega)).trans (hp36.2 k a b c)⟩
          have hT9 := tuP_Tb hp9 hT
          obtain ⟨hsp91, hsp92⟩ := tuP_spare hp9 hS1
          have hz9 := hp9.1
          have hpb9 := hpb ((i23 : Nat) : Int) ((i36 : Nat) : Int)
          refine z_ald (pc := 78) hc 3 rfl dX5_turnOnceFromSpare_78 ?_
          refine fg_X5_23 (pc := 79) hc rfl rfl dX5_turnOnceFromSpare_79 ?_
          refine z_ild (pc := 82) hc 2 rfl dX5_turnOnceFromSpare_82 ?_
          refine z_ild (pc := 83) hc 1 rfl dX5_turnOnceFromSpare_83 ?_
          refine kc_X5_129 (pc := 84) hc rfl (zfitX (by decide) rfl rfl) rfl (by decide) (Nat.le_of_ble_eq_true rfl) (ct_X3_isPinnedAt (putK (zrep (tuI (tsX M 1) ((i23 : Nat) : Int)) i36 (zrep (tuO (tsX M 1)) i23 (watM M 0 (M 1 1) (M 1 0) 144))) 0 ((i36 : Nat) : Int) (((M 1 0) - 1) - ((i23 : Nat) : Int)) (laT (tsX M 1) ((i23 : Nat) : Int) ((i36 : Nat) : Int))) 1 (by omega) (by first | assumption ) ((i23 : Nat) : Int) ((i36 : Nat) : Int) (by omega) (by omega)) dX5_turnOnceFromSpare_84 ?_
          rw [hsp92]
          refine z_beq (pc := 87) (tgt := 116) hc (by decide) dX5_turnOnceFromSpare_87 (fun h87 => ?_) (fun h87 => ?_)
          · show zJW X 116 [(3, zI (((M 1 0) - 1) - ((i23 : Nat) : Int))), (2, zI ((i36 : Nat) : Int)), (1, zI ((i23 : Nat) : Int)), (0, zR 27)] [] (putK (zrep (tuI (tsX M 1) ((i23 : Nat) : Int)) i36 (zrep (tuO (tsX M 1)) i23 (watM M 0 (M 1 1) (M 1 0) 144))) 0 ((i36 : Nat) : Int) (((M 1 0) - 1) - ((i23 : Nat) : Int)) (laT (tsX M 1) ((i23 : Nat) : Int) ((i36 : Nat) : Int)))
            refine z_iinc (pc := 116) (lv' := [(2, zI (((i36 : Nat) : Int) + 1)), (3, zI (((M 1 0) - 1) - ((i23 : Nat) : Int))), (1, zI ((i23 : Nat) : Int)), (0, zR 27)]) hc 1 rfl rfl (by decide) dX5_turnOnceFromSpare_116 ?_
            refine z_goto (pc := 119) (tgt := 36) hc (by decide) dX5_turnOnceFromSpare_119 ?_
            refine zJW_sub (lv' := [(2, zI (((i36 : Nat) : Int) + 1)), (1, zI ((i23 : Nat) : Int)), (0, zR 27)]) [0, 2, 3] rfl ?_
            exact zJW_eq (by rfl) rfl (by rw [zrep_succ]; unfold tuI; first | (rw [if_pos h87]; rfl) | (rw [if_neg (of_decide_eq_false h87)]; rfl)) ih36
          · show zJW X 90 [(3, zI (((M 1 0) - 1) - ((i23 : Nat) : Int))), (2, zI ((i36 : Nat) : Int)), (1, zI ((i23 : Nat) : Int)), (0, zR 27)] [] (putK (zrep (tuI (tsX M 1) ((i23 : Nat) : Int)) i36 (zrep (tuO (tsX M 1)) i23 (watM M 0 (M 1 1) (M 1 0) 144))) 0 ((i36 : Nat) : Int) (((M 1 0) - 1) - ((i23 : Nat) : Int)) (laT (tsX M 1) ((i23 : Nat) : Int) ((i36 : Nat) : Int)))
            have h87 := of_decide_eq_true h87
            refine z_ald (pc := 90) hc 3 rfl dX5_turnOnceFromSpare_90 ?_
            refine fg_X5_19 (pc := 91) hc rfl rfl dX5_turnOnceFromSpare_91 ?_
            refine z_ild (pc := 94) hc 1 rfl dX5_turnOnceFromSpare_94 ?_
            refine z_ild (pc := 95) hc 0 rfl dX5_turnOnceFromSpare_95 ?_
            refine z_ald (pc := 96) hc 3 rfl dX5_turnOnceFromSpare_96 ?_
            refine fg_X5_12 (pc := 97) hc rfl rfl dX5_turnOnceFromSpare_97 ?_
            refine z_ald (pc := 100) hc 3 rfl dX5_turnOnceFromSpare_100 ?_
            refine fg_X5_23 (pc := 101) hc rfl rfl dX5_turnOnceFromSpare_101 ?_
            refine z_ild (pc := 104) hc 2 rfl dX5_turnOnceFromSpare_104 ?_
            refine z_ild (pc := 105) hc 1 rfl dX5_turnOnceFromSpare_105 ?_
            refine kc_X5_142 (pc := 106) hc rfl (zfitX (by decide) rfl rfl) rfl (by decide) (Nat.le_of_ble_eq_true rfl) (ct_X3_pinAt (putK (zrep (tuI (tsX M 1) ((i23 : Nat) : Int)) i36 (zrep (tuO (tsX M 1)) i23 (watM M 0 (M 1 1) (M 1 0) 144))) 0 ((i36 : Nat) : Int) (((M 1 0) - 1) - ((i23 : Nat) : Int)) (laT (tsX M 1) ((i23 : Nat) : Int) ((i36 : Nat) : Int))) 1 (by omega) (by first | assumption ) ((i23 : Nat) : Int) ((i36 : Nat) : Int) (by omega) (by omega)) dX5_turnOnceFromSpare_106 ?_
            rw [hsp92]
            refine z_iconst (pc := 109) hc 1 dX5_turnOnceFromSpare_109 ?_
            refine kc_X5_154 (pc := 110) hc rfl (zfitX (by decide) rfl rfl) rfl (Nat.le_of_ble_eq_true rfl) (ct_X1_turnedShape (putK (zrep (tuI (tsX M 1) ((i23 : Nat) : Int)) i36 (zrep (tuO (tsX M 1)) i23 (watM M 0 (M 1 1) (M 1 0) 144))) 0 ((i36 : Nat) : Int) (((M 1 0) - 1) - ((i23 : Nat) : Int)) (laT (tsX M 1) ((i23 : Nat) : Int) ((i36 : Nat) : Int))) (by assumption) (piT (tsX M 1) ((i23 : Nat) : Int) ((i36 : Nat) : Int)) 1 (by omega)) dX5_turnOnceFromSpare_110 ?_
            refine kc_X5_138 (pc := 113) hc rfl (zfitX (by decide) rfl rfl) rfl (by decide) (Nat.le_of_ble_eq_true rfl) (ct_X3_putPin (putK (zrep (tuI (tsX M 1) ((i23 : Nat) : Int)) i36 (zrep (tuO (tsX M 1)) i23 (watM M 0 (M 1 1) (M 1 0) 144))) 0 ((i36 : Nat) : Int) (((M 1 0) - 1) - ((i23 : Nat) : Int)) (laT (tsX M 1) ((i23 : Nat) : Int) ((i36 : Nat) : Int))) 0 (by omega) (by assumption) ((i36 : Nat) : Int) (((M 1 0) - 1) - ((i23 : Nat) : Int)) (by omega) (by omega) (tuZ (piT (tsX M 1) ((i23 : Nat) : Int) ((i36 : Nat) : Int)) 1)) dX5_turnOnceFromSpare_113 ?_
            refine z_iinc (pc := 116) (lv' := [(2, zI (((i36 : Nat) : Int) + 1)), (3, zI (((M 1 0) - 1) - ((i23 : Nat) : Int))), (1, zI ((i23 : Nat) : Int)), (0, zR 27)]) hc 1 rfl rfl (by decide) dX5_turnOnceFromSpare_116 ?_
            refine z_goto (pc := 119) (tgt := 36) hc (by decide) dX5_turnOnceFromSpare_119 ?_
            refine zJW_sub (lv' := [(2, zI (((i36 : Nat) : Int) + 1)), (1, zI ((i23 : Nat) : Int)), (0, zR 27)]) [0, 2, 3] rfl ?_
            exact zJW_eq (by rfl) rfl (by rw [zrep_succ]; unfold tuI; first | (rw [if_pos h87]; rfl) | (rw [if_neg (of_decide_eq_false h87)]; rfl)) ih36

set_option maxRecDepth 100000 in
set_option maxHeartbeats 4000000 in
theorem ct_X5_turn (M : Mem) (hI : XI M) (k : Int) (hb_k : -2147483648 ≤ k ∧ k < 2147483648)  : zCt yX5_turn KX5_turn [zR 27, zI k] M (fun zv zM => zv = some (if 1 ≤ k ∧ k ≤ 3 then zrep trS k.toNat (recM M) 0 0 else -2) ∧ zM = (if 1 ≤ k ∧ k ≤ 3 then zrep trS k.toNat (recM M) else M)) := by
  obtain ⟨hT, hSa, hH⟩ := id hI
  have hS := hSa 0 (by decide)
  obtain ⟨hs1, hs2, hs3, hs4, hs5, hs6, hs7⟩ := id hS
  have hI1 := recM_XI hI
  obtain ⟨hT1, hSb, hH1⟩ := id hI1
  have hS1 := hSb 0 (by decide)
  obtain ⟨hr1, hr2, hr3, hr4, hr5, hr6, hr7⟩ := id hS1
  have ht1 := recM_ts hI
  have hm0 : recM M 0 = M 0 := recM_off hH (by decide) (by decide) (by omega)
  have hp0 : trP (recM M) (recM M) := ⟨hS1, fun _ _ _ _ _ _ _ => rfl⟩
  refine z_met (by decide) rfl (Nat.le_of_ble_eq_true rfl) (fun X hc he => ?_)
  show zJW X 0 [(0, zR 27), (1, zI k)] [] M
  refine z_ild (pc := 0) hc 1 rfl dX5_turn_0 ?_
  refine z_iconst (pc := 1) hc 1 dX5_turn_1 ?_
  refine z_clt (pc := 2) (tgt := 10) hc (by omega) (by decide) dX5_turn_2 (fun h2 => ?_) (fun h2 => ?_)
  · show zJW X 10 [(0, zR 27), (1, zI k)] [] M
    refine z_bipush (pc := 10) hc (-2) (by decide) dX5_turn_10 ?_
    exact z_iret (pc := 12) hc he rfl dX5_turn_12 (⟨by rw [if_neg (by omega)], by rw [if_neg (by omega)]⟩)
  · show zJW X 5 [(0, zR 27), (1, zI k)] [] M
    refine z_ild (pc := 5) hc 1 rfl dX5_turn_5 ?_
    refine z_iconst (pc := 6) hc 3 dX5_turn_6 ?_
    refine z_cle (pc := 7) (tgt := 13) hc (by omega) (by decide) dX5_turn_7 (fun h7 => ?_) (fun h7 => ?_)
    · show zJW X 13 [(0, zR 27), (1, zI k)] [] M
      refine z_ald (pc := 13) hc 0 rfl dX5_turn_13 ?_
      refine fg_X5_36 (pc := 14) hc rfl rfl dX5_turn_14 ?_
      refine z_ald (pc := 17) hc 0 rfl dX5_turn_17 ?_
      refine fg_X5_19 (pc := 18) hc rfl rfl dX5_turn_18 ?_
      refine kc_X5_58 (pc := 21) hc rfl (zfitX (by decide) rfl rfl) rfl (Nat.le_of_ble_eq_true rfl) (ct_X0_record M (by assumption) (by assumption) ) dX5_turn_21 ?_
      refine z_iconst (pc := 24) hc 0 dX5_turn_24 ?_
      refine z_ist (pc := 25) (lv' := [(2, zI 0), (0, zR 27), (1, zI k)]) hc rfl (by decide) dX5_turn_25 ?_
      refine z_for k.toNat (fun i26 => [(2, zI ((i26 : Nat) : Int)), (0, zR 27), (1, zI k)]) (fun i26 => (zrep trS i26 (recM M))) (by rfl) (by rfl) ?_ (fun i26 hi26 ih26 => ?_)
      · show zJW X 26 [(2, zI ((k.toNat : Nat) : Int)), (0, zR 27), (1, zI k)] [] (zrep trS k.toNat (recM M))
        refine z_ild (pc := 26) hc 0 rfl dX5_turn_26 ?_
        refine z_ild (pc := 27) hc 2 rfl dX5_turn_27 ?_
        refine z_cge (pc := 28) (tgt := 52) hc (by omega) (by decide) dX5_turn_28 (fun h28 => ?_) (fun h28 => ?_)
        · show zJW X 52 [(2, zI ((k.toNat : Nat) : Int)), (0, zR 27), (1, zI k)] [] (zrep trS k.toNat (recM M))
          refine z_ald (pc := 52) hc 1 rfl dX5_turn_52 ?_
          refine fg_X5_19 (pc := 53) hc rfl rfl dX5_turn_53 ?_
          refine fg_X5_95 (pc := 56) hc rfl rfl (by decide) dX5_turn_56 ?_
          exact z_iret (pc := 59) hc he rfl dX5_turn_59 (⟨by rw [if_pos (by omega)], by rw [if_pos (by omega)]⟩)
        · exfalso; omega
      · show zJW X 26 [(2, zI ((i26 : Nat) : Int)), (0, zR 27), (1, zI k)] [] (zrep trS i26 (recM M))
        have hp26 : trP (recM M) (zrep trS i26 (recM M)) := zrep_inv (P := trP (recM M)) hp0 _ (fun _ _ _ hx => trS_P hx)
        have hz26 := hp26.1
        have hT26 := trP_Tb hp26 hT1
        have hd0 : zSk (copM (zrep trS i26 (recM M)) 1 0 144) 0 := zSk_congr (copM_offf (by decide) (by decide) (by decide)) (copM_offf (by decide) (by decide) (by decide)) (copM_offf (by decide) (by decide) (by decide)) hz26
        have hd1 : zSk (copM (zrep trS i26 (recM M)) 1 0 144) 1 := zSk_copM hz26
        have hdT : TbX (copM (zrep trS i26 (recM M)) 1 0 144) := by
          refine ⟨fun x a b => ?_, fun x a b => ?_⟩
          · rw [copM_off (by decide) (by decide) (by decide)]; exact hT26.1 x a b
          · rw [copM_off (by decide) (by decide) (by decide)]; exact hT26.2 x a b
        refine z_ild (pc := 26) hc 0 rfl dX5_turn_26 ?_
        refine z_ild (pc := 27) hc 2 rfl dX5_turn_27 ?_
        refine z_cge (pc := 28) (tgt := 52) hc (by omega) (by decide) dX5_turn_28 (fun h28 => ?_) (fun h28 => ?_)
        · exfalso; omega
        · show zJW X 31 [(2, zI ((i26 : Nat) : Int)), (0, zR 27), (1, zI k)] [] (zrep trS i26 (recM M))
          refine z_ald (pc := 31) hc 1 rfl dX5_turn_31 ?_
          refine fg_X5_23 (pc := 32) hc rfl rfl dX5_turn_32 ?_
          refine z_ald (pc := 35) hc 1 rfl dX5_turn_35 ?_
          refine fg_X5_19 (pc := 36) hc rfl rfl dX5_turn_36 ?_
          refine kc_X5_108 (pc := 39) hc rfl (zfitX (by decide) rfl rfl) rfl (by decide) (Nat.le_of_ble_eq_true rfl) (ct_X3_copyFrom (zrep trS i26 (recM M)) 1 0 (by omega) (by omega) (by omega) (by assumption)) dX5_turn_39 ?_
          refine z_ald (pc := 42) hc 1 rfl dX5_turn_42 ?_
          refine kc_X5_120 (pc := 43) hc rfl (zfitX (by decide) rfl rfl) rfl (Nat.le_of_ble_eq_true rfl) (ct_X5_turnOnceFromSpare (copM (zrep trS i26 (recM M)) 1 0 144) (by assumption) (by assumption) (by assumption) ) dX5_turn_43 ?_
          refine z_iinc (pc := 46) (lv' := [(2, zI (((i26 : Nat) : Int) + 1)), (0, zR 27), (1, zI k)]) hc 0 rfl rfl (by decide) dX5_turn_46 ?_
          refine z_goto (pc := 49) (tgt := 26) hc (by decide) dX5_turn_49 ?_
          exact zJW_eq (by rfl) rfl (by rfl) ih26
    · show zJW X 10 [(0, zR 27), (1, zI k)] [] M
      refine z_bipush (pc := 10) hc (-2) (by decide) dX5_turn_10 ?_
      exact z_iret (pc := 12) hc he rfl dX5_turn_12 (⟨by rw [if_neg (by omega)], by rw [if_neg (by omega)]⟩)
