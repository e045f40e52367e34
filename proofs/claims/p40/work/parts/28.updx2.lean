set_option maxRecDepth 100000 in
set_option maxHeartbeats 4000000 in
theorem ct_X5_brush (M : Mem) (hI : XI M) (r : Int) (hb_r : -2147483648 ≤ r ∧ r < 2147483648) (c : Int) (hb_c : -2147483648 ≤ c ∧ c < 2147483648) (k : Int) (hb_k : -2147483648 ≤ k ∧ k < 2147483648) (b : Bool)  : zCt yX5_brush KX5_brush [zR 27, zI r, zI c, zI k, zI (zbz b)] M (fun zv zM => zv = some (if inT (tsX M 0) r c = true then (if 0 ≤ k ∧ k ≤ 5 then (zrep (brO r c k b) (2 * k + 1).toNat (recM M, 0)).2 else -2) else -1) ∧ zM = (if inT (tsX M 0) r c = true ∧ 0 ≤ k ∧ k ≤ 5 then (zrep (brO r c k b) (2 * k + 1).toNat (recM M, 0)).1 else M)) := by
  obtain ⟨hT, hSa, hH⟩ := id hI
  have hS := hSa 0 (by decide)
  obtain ⟨hs1, hs2, hs3, hs4, hs5, hs6, hs7⟩ := id hS
  have hI1 := recM_XI hI
  obtain ⟨hT1, hSb, hH1⟩ := id hI1
  have hS1 := hSb 0 (by decide)
  obtain ⟨hr1, hr2, hr3, hr4, hr5, hr6, hr7⟩ := id hS1
  have ht1 := recM_ts hI
  have hm0 : recM M 0 = M 0 := recM_off hH (by decide) (by decide) (by omega)
  refine z_met (by decide) rfl (Nat.le_of_ble_eq_true rfl) (fun X hc he => ?_)
  show zJW X 0 [(0, zR 27), (1, zI r), (2, zI c), (3, zI k), (4, zI (zbz b))] [] M
  refine z_ald (pc := 0) hc 0 rfl dX5_brush_0 ?_
  refine fg_X5_19 (pc := 1) hc rfl rfl dX5_brush_1 ?_
  refine z_ild (pc := 4) hc 1 rfl dX5_brush_4 ?_
  refine z_ild (pc := 5) hc 2 rfl dX5_brush_5 ?_
  refine kc_X5_73 (pc := 6) hc rfl (zfitX (by decide) rfl rfl) rfl (by decide) (Nat.le_of_ble_eq_true rfl) (ct_X3_has M 0 (by omega) (by first | assumption ) r c (by omega) (by omega)) dX5_brush_6 ?_
  refine z_bne (pc := 9) (tgt := 14) hc (by decide) dX5_brush_9 (fun h9 => ?_) (fun h9 => ?_)
  · show zJW X 14 [(0, zR 27), (1, zI r), (2, zI c), (3, zI k), (4, zI (zbz b))] [] M
    have h9' := h9
    rw [inT_X] at h9'
    have h9' := of_decide_eq_true h9'
    refine z_ild (pc := 14) hc 3 rfl dX5_brush_14 ?_
    refine z_ilt (pc := 15) (tgt := 23) hc (by omega) (by decide) dX5_brush_15 (fun h15 => ?_) (fun h15 => ?_)
    · show zJW X 23 [(0, zR 27), (1, zI r), (2, zI c), (3, zI k), (4, zI (zbz b))] [] M
      refine z_bipush (pc := 23) hc (-2) (by decide) dX5_brush_23 ?_
      exact z_iret (pc := 25) hc he rfl dX5_brush_25 (⟨by rw [if_pos h9, if_neg (by omega)], by rw [if_neg (fun h => by omega)]⟩)
    · show zJW X 18 [(0, zR 27), (1, zI r), (2, zI c), (3, zI k), (4, zI (zbz b))] [] M
      refine z_ild (pc := 18) hc 3 rfl dX5_brush_18 ?_
      refine z_iconst (pc := 19) hc 5 dX5_brush_19 ?_
      refine z_cle (pc := 20) (tgt := 26) hc (by omega) (by decide) dX5_brush_20 (fun h20 => ?_) (fun h20 => ?_)
      · show zJW X 26 [(0, zR 27), (1, zI r), (2, zI c), (3, zI k), (4, zI (zbz b))] [] M
        refine z_ald (pc := 26) hc 0 rfl dX5_brush_26 ?_
        refine fg_X5_36 (pc := 27) hc rfl rfl dX5_brush_27 ?_
        refine z_ald (pc := 30) hc 0 rfl dX5_brush_30 ?_
        refine fg_X5_19 (pc := 31) hc rfl rfl dX5_brush_31 ?_
        refine kc_X5_58 (pc := 34) hc rfl (zfitX (by decide) rfl rfl) rfl (Nat.le_of_ble_eq_true rfl) (ct_X0_record M (by assumption) (by assumption) ) dX5_brush_34 ?_
        refine z_iconst (pc := 37) hc 0 dX5_brush_37 ?_
        refine z_isw (pc := 38) (lv' := [(5, zI 0), (0, zR 27), (1, zI r), (2, zI c), (3, zI k), (4, zI (zbz b))]) hc rfl (by decide) dX5_brush_38 ?_
        refine z_ild (pc := 40) hc 4 rfl dX5_brush_40 ?_
        refine z_ineg (pc := 41) hc dX5_brush_41 ?_
        refine z_isw (pc := 42) (lv' := [(6, zI (-k)), (5, zI 0), (0, zR 27), (1, zI r), (2, zI c), (3, zI k), (4, zI (zbz b))]) hc rfl (by decide) dX5_brush_42 ?_
        skip
        refine z_for ((2 * k + 1).toNat) (fun i44 => [(6, zI (((i44 : Nat) : Int) - k)), (5, zI ((zrep (brO r c k b) i44 (recM M, 0)).2)), (0, zR 27), (1, zI r), (2, zI c), (3, zI k), (4, zI (zbz b))]) (fun i44 => (zrep (brO r c k b) i44 (recM M, 0)).1) (by (try dsimp only); rw [show (((0 : Nat) : Int) - k) = -k by omega]; rfl) (by rfl) ?_ (fun i44 hi44 ih44 => ?_)
        · show zJW X 44 [(6, zI (((((2 * k + 1).toNat) : Nat) : Int) - k)), (5, zI ((zrep (brO r c k b) ((2 * k + 1).toNat) (recM M, 0)).2)), (0, zR 27), (1, zI r), (2, zI c), (3, zI k), (4, zI (zbz b))] [] ((zrep (brO r c k b) ((2 * k + 1).toNat) (recM M, 0)).1)
          skip
          refine z_ilw (pc := 44) hc 0 rfl dX5_brush_44 ?_
          refine z_ild (pc := 46) hc 5 rfl dX5_brush_46 ?_
          refine z_cgt (pc := 47) (tgt := 112) hc (by omega) (by decide) dX5_brush_47 (fun h47 => ?_) (fun h47 => ?_)
          · show zJW X 112 [(6, zI (((((2 * k + 1).toNat) : Nat) : Int) - k)), (5, zI ((zrep (brO r c k b) ((2 * k + 1).toNat) (recM M, 0)).2)), (0, zR 27), (1, zI r), (2, zI c), (3, zI k), (4, zI (zbz b))] [] ((zrep (brO r c k b) ((2 * k + 1).toNat) (recM M, 0)).1)
            refine z_ilw (pc := 112) hc 1 rfl dX5_brush_112 ?_
            exact z_iret (pc := 114) hc he rfl dX5_brush_114 (⟨by rw [if_pos h9, if_pos (by omega)], by rw [if_pos ⟨h9, by omega⟩]⟩)
          · exfalso; omega
        · show zJW X 44 [(6, zI (((i44 : Nat) : Int) - k)), (5, zI ((zrep (brO r c k b) i44 (recM M, 0)).2)), (0, zR 27), (1, zI r), (2, zI c), (3, zI k), (4, zI (zbz b))] [] ((zrep (brO r c k b) i44 (recM M, 0)).1)
          have hq44 : zSk (zrep (brO r c k b) i44 (recM M, 0)).1 0 := zrep_inv (P := fun q : Mem × Int => zSk q.1 0) hS1 _ (fun _ _ _ hx => brO_S hx)
          refine z_ilw (pc := 44) hc 0 rfl dX5_brush_44 ?_
          refine z_ild (pc := 46) hc 5 rfl dX5_brush_46 ?_
          refine z_cgt (pc := 47) (tgt := 112) hc (by omega) (by decide) dX5_brush_47 (fun h47 => ?_) (fun h47 => ?_)
          · exfalso; omega
          · show zJW X 50 [(6, zI (((i44 : Nat) : Int) - k)), (5, zI ((zrep (brO r c k b) i44 (recM M, 0)).2)), (0, zR 27), (1, zI r), (2, zI c), (3, zI k), (4, zI (zbz b))] [] ((zrep (brO r c k b) i44 (recM M, 0)).1)
            refine z_ild (pc := 50) hc 5 rfl dX5_brush_50 ?_
            refine z_ineg (pc := 51) hc dX5_brush_51 ?_
            refine z_isw (pc := 52) (lv' := [(7, zI (-k)), (6, zI (((i44 : Nat) : Int) - k)), (5, zI ((zrep (brO r c k b) i44 (recM M, 0)).2)), (0, zR 27), (1, zI r), (2, zI c), (3, zI k), (4, zI (zbz b))]) hc rfl (by decide) dX5_brush_52 ?_
            refine z_for ((2 * k + 1).toNat) (fun i54 => [(7, zI (((i54 : Nat) : Int) - k)), (6, zI (((i44 : Nat) : Int) - k)), (5, zI ((zrep (brI r c k b ((i44 : Nat) : Int)) i54 (zrep (brO r c k b) i44 (recM M, 0))).2)), (0, zR 27), (1, zI r), (2, zI c), (3, zI k), (4, zI (zbz b))]) (fun i54 => (zrep (brI r c k b ((i44 : Nat) : Int)) i54 (zrep (brO r c k b) i44 (recM M, 0))).1) (by (try dsimp only); rw [show (((0 : Nat) : Int) - k) = -k by omega]; rfl) (by rfl) ?_ (fun i54 hi54 ih54 => ?_)
            · show zJW X 54 [(7, zI (((((2 * k + 1).toNat) : Nat) : Int) - k)), (6, zI (((i44 : Nat) : Int) - k)), (5, zI ((zrep (brI r c k b ((i44 : Nat) : Int)) ((2 * k + 1).toNat) (zrep (brO r c k b) i44 (recM M, 0))).2)), (0, zR 27), (1, zI r), (2, zI c), (3, zI k), (4, zI (zbz b))] [] ((zrep (brI r c k b ((i44 : Nat) : Int)) ((2 * k + 1).toNat) (zrep (brO r c k b) i44 (recM M, 0))).1)
              refine z_ilw (pc := 54) hc 0 rfl dX5_brush_54 ?_
              refine z_ild (pc := 56) hc 6 rfl dX5_brush_56 ?_
              refine z_cgt (pc := 57) (tgt := 106) hc (by omega) (by decide) dX5_brush_57 (fun h57 => ?_) (fun h57 => ?_)
              · show zJW X 106 [(7, zI (((((2 * k + 1).toNat) : Nat) : Int) - k)), (6, zI (((i44 : Nat) : Int) - k)), (5, zI ((zrep (brI r c k b ((i44 : Nat) : Int)) ((2 * k + 1).toNat) (zrep (brO r c k b) i44 (recM M, 0))).2)), (0, zR 27), (1, zI r), (2, zI c), (3, zI k), (4, zI (zbz b))] [] ((zrep (brI r c k b ((i44 : Nat) : Int)) ((2 * k + 1).toNat) (zrep (brO r c k b) i44 (recM M, 0))).1)
                refine z_iinc (pc := 106) (lv' := [(6, zI ((((i44 : Nat) : Int) - k) + 1)), (7, zI (((((2 * k + 1).toNat) : Nat) : Int) - k)), (5, zI ((zrep (brI r c k b ((i44 : Nat) : Int)) ((2 * k + 1).toNat) (zrep (brO r c k b) i44 (recM M, 0))).2)), (0, zR 27), (1, zI r), (2, zI c), (3, zI k), (4, zI (zbz b))]) hc 1 rfl rfl (by decide) dX5_brush_106 ?_
                refine z_goto (pc := 109) (tgt := 44) hc (by decide) dX5_brush_109 ?_
                skip
                refine zJW_sub (lv' := [(6, zI ((((i44 : Nat) : Int) - k) + 1)), (5, zI ((zrep (brI r c k b ((i44 : Nat) : Int)) ((2 * k + 1).toNat) (zrep (brO r c k b) i44 (recM M, 0))).2)), (0, zR 27), (1, zI r), (2, zI c), (3, zI k), (4, zI (zbz b))]) [0, 2, 3, 4, 5, 6, 7] rfl ?_
                exact zJW_eq (by rw [show ((i44 : Nat) : Int) - k + 1 = ((i44 + 1 : Nat) : Int) - k by omega]; rfl) rfl (by rfl) ih44
              · exfalso; omega
            · show zJW X 54 [(7, zI (((i54 : Nat) : Int) - k)), (6, zI (((i44 : Nat) : Int) - k)), (5, zI ((zrep (brI r c k b ((i44 : Nat) : Int)) i54 (zrep (brO r c k b) i44 (recM M, 0))).2)), (0, zR 27), (1, zI r), (2, zI c), (3, zI k), (4, zI (zbz b))] [] ((zrep (brI r c k b ((i44 : Nat) : Int)) i54 (zrep (brO r c k b) i44 (recM M, 0))).1)
              have hq54 : zSk (zrep (brI r c k b ((i44 : Nat) : Int)) i54 (zrep (brO r c k b) i44 (recM M, 0))).1 0 := zrep_inv (P := fun q : Mem × Int => zSk q.1 0) hq44 _ (fun _ _ _ hx => brI_S hx)
              refine z_ilw (pc := 54) hc 0 rfl dX5_brush_54 ?_
              refine z_ild (pc := 56) hc 6 rfl dX5_brush_56 ?_
              refine z_cgt (pc := 57) (tgt := 106) hc (by omega) (by decide) dX5_brush_57 (fun h57 => ?_) (fun h57 => ?_)
              · exfalso; omega
              · show zJW X 60 [(7, zI (((i54 : Nat) : Int) - k)), (6, zI (((i44 : Nat) : Int) - k)), (5, zI ((zrep (brI r c k b ((i44 : Nat) : Int)) i54 (zrep (brO r c k b) i44 (recM M, 0))).2)), (0, zR 27), (1, zI r), (2, zI c), (3, zI k), (4, zI (zbz b))] [] ((zrep (brI r c k b ((i44 : Nat) : Int)) i54 (zrep (brO r c k b) i44 (recM M, 0))).1)
                refine z_ilw (pc := 60) hc 1 rfl dX5_brush_60 ?_
                refine z_ilw (pc := 62) hc 1 rfl dX5_brush_62 ?_
                refine z_imul (pc := 64) hc dX5_brush_64 ?_
                refine z_ilw (pc := 65) hc 0 rfl dX5_brush_65 ?_
                refine z_ilw (pc := 67) hc 0 rfl dX5_brush_67 ?_
                refine z_imul (pc := 69) hc dX5_brush_69 ?_
                refine z_iadd (pc := 70) hc dX5_brush_70 ?_
                refine z_ild (pc := 71) hc 6 rfl dX5_brush_71 ?_
                refine z_ild (pc := 72) hc 6 rfl dX5_brush_72 ?_
                refine z_imul (pc := 73) hc dX5_brush_73 ?_
                refine z_cgt (pc := 74) (tgt := 100) hc (by have s1 := sq_bd (x := (((i44 : Nat) : Int) - k)) (by omega); have s2 := sq_bd (x := (((i54 : Nat) : Int) - k)) (by omega); have s3 := sq_bd (x := k) (by omega); omega) (by decide) dX5_brush_74 (fun h74 => ?_) (fun h74 => ?_)
                · show zJW X 100 [(7, zI (((i54 : Nat) : Int) - k)), (6, zI (((i44 : Nat) : Int) - k)), (5, zI ((zrep (brI r c k b ((i44 : Nat) : Int)) i54 (zrep (brO r c k b) i44 (recM M, 0))).2)), (0, zR 27), (1, zI r), (2, zI c), (3, zI k), (4, zI (zbz b))] [] ((zrep (brI r c k b ((i44 : Nat) : Int)) i54 (zrep (brO r c k b) i44 (recM M, 0))).1)
                  refine z_iinc (pc := 100) (lv' := [(7, zI ((((i54 : Nat) : Int) - k) + 1)), (6, zI (((i44 : Nat) : Int) - k)), (5, zI ((zrep (brI r c k b ((i44 : Nat) : Int)) i54 (zrep (brO r c k b) i44 (recM M, 0))).2)), (0, zR 27), (1, zI r), (2, zI c), (3, zI k), (4, zI (zbz b))]) hc 0 rfl rfl (by decide) dX5_brush_100 ?_
                  refine z_goto (pc := 103) (tgt := 54) hc (by decide) dX5_brush_103 ?_
                  exact zJW_eq (by rw [show ((i54 : Nat) : Int) - k + 1 = ((i54 + 1 : Nat) : Int) - k by omega, zrep_succ]; first | (rw [brI_no (by omega)]; done) | (rw [brI_t h74 h94]; done) | (rw [brI_f h74 h94])) rfl (by rw [zrep_succ]; first | (rw [brI_no (by omega)]; done) | (rw [brI_t h74 h94]; done) | (rw [brI_f h74 h94])) ih54
                · show zJW X 77 [(7, zI (((i54 : Nat) : Int) - k)), (6, zI (((i44 : Nat) : Int) - k)), (5, zI ((zrep (brI r c k b ((i44 : Nat) : Int)) i54 (zrep (brO r c k b) i44 (recM M, 0))).2)), (0, zR 27), (1, zI r), (2, zI c), (3, zI k), (4, zI (zbz b))] [] ((zrep (brI r c k b ((i44 : Nat) : Int)) i54 (zrep (brO r c k b) i44 (recM M, 0))).1)
                  have hch : chX (zrep (brI r c k b ((i44 : Nat) : Int)) i54 (zrep (brO r c k b) i44 (recM M, 0))).1 (r + (((i44 : Nat) : Int) - k)) (c + (((i54 : Nat) : Int) - k)) b = chX (zrep (brI r c k b ((i44 : Nat) : Int)) i54 (zrep (brO r c k b) i44 (recM M, 0))).1 (r + (((i44 : Nat) : Int) - k)) (c + (((i54 : Nat) : Int) - k)) b := rfl
                  refine z_ald (pc := 77) hc 3 rfl dX5_brush_77 ?_
                  refine fg_X5_19 (pc := 78) hc rfl rfl dX5_brush_78 ?_
                  refine z_ild (pc := 81) hc 4 rfl dX5_brush_81 ?_
                  refine z_ilw (pc := 82) hc 1 rfl dX5_brush_82 ?_
                  refine z_iadd (pc := 84) hc dX5_brush_84 ?_
                  refine z_ild (pc := 85) hc 5 rfl dX5_brush_85 ?_
                  refine z_ilw (pc := 86) hc 0 rfl dX5_brush_86 ?_
                  refine z_iadd (pc := 88) hc dX5_brush_88 ?_
                  refine z_ilw (pc := 89) hc 7 rfl dX5_brush_89 ?_
                  refine kc_X5_84 (pc := 91) hc rfl (zfitX (by decide) rfl rfl) rfl (by decide) (Nat.le_of_ble_eq_true rfl) (ct_X3_putKind ((zrep (brI r c k b ((i44 : Nat) : Int)) i54 (zrep (brO r c k b) i44 (recM M, 0))).1) 0 (by omega) (by assumption) (r + (((i44 : Nat) : Int) - k)) (c + (((i54 : Nat) : Int) - k)) (by omega) (by omega) b) dX5_brush_91 ?_
                  refine z_beq (pc := 94) (tgt := 100) hc (by decide) dX5_brush_94 (fun h94 => ?_) (fun h94 => ?_)
                  · show zJW X 100 [(7, zI (((i54 : Nat) : Int) - k)), (6, zI (((i44 : Nat) : Int) - k)), (5, zI ((zrep (brI r c k b ((i44 : Nat) : Int)) i54 (zrep (brO r c k b) i44 (recM M, 0))).2)), (0, zR 27), (1, zI r), (2, zI c), (3, zI k), (4, zI (zbz b))] [] (putK ((zrep (brI r c k b ((i44 : Nat) : Int)) i54 (zrep (brO r c k b) i44 (recM M, 0))).1) 0 (r + (((i44 : Nat) : Int) - k)) (c + (((i54 : Nat) : Int) - k)) b)
                    refine z_iinc (pc := 100) (lv' := [(7, zI ((((i54 : Nat) : Int) - k) + 1)), (6, zI (((i44 : Nat) : Int) - k)), (5, zI ((zrep (brI r c k b ((i44 : Nat) : Int)) i54 (zrep (brO r c k b) i44 (recM M, 0))).2)), (0, zR 27), (1, zI r), (2, zI c), (3, zI k), (4, zI (zbz b))]) hc 0 rfl rfl (by decide) dX5_brush_100 ?_
                    refine z_goto (pc := 103) (tgt := 54) hc (by decide) dX5_brush_103 ?_
                    exact zJW_eq (by rw [show ((i54 : Nat) : Int) - k + 1 = ((i54 + 1 : Nat) : Int) - k by omega, zrep_succ]; first | (rw [brI_no (by omega)]; done) | (rw [brI_t h74 h94]; done) | (rw [brI_f h74 h94])) rfl (by rw [zrep_succ]; first | (rw [brI_no (by omega)]; done) | (rw [brI_t h74 h94]; done) | (rw [brI_f h74 h94])) ih54
                  · show zJW X 97 [(7, zI (((i54 : Nat) : Int) - k)), (6, zI (((i44 : Nat) : Int) - k)), (5, zI ((zrep (brI r c k b ((i44 : Nat) : Int)) i54 (zrep (brO r c k b) i44 (recM M, 0))).2)), (0, zR 27), (1, zI r), (2, zI c), (3, zI k), (4, zI (zbz b))] [] (putK ((zrep (brI r c k b ((i44 : Nat) : Int)) i54 (zrep (brO r c k b) i44 (recM M, 0))).1) 0 (r + (((i44 : Nat) : Int) - k)) (c + (((i54 : Nat) : Int) - k)) b)
                    refine z_iinc (pc := 97) (lv' := [(5, zI ((zrep (brI r c k b ((i44 : Nat) : Int)) i54 (zrep (brO r c k b) i44 (recM M, 0))).2 + 1)), (7, zI (((i54 : Nat) : Int) - k)), (6, zI (((i44 : Nat) : Int) - k)), (0, zR 27), (1, zI r), (2, zI c), (3, zI k), (4, zI (zbz b))]) hc 2 rfl rfl (by decide) dX5_brush_97 ?_
                    refine z_iinc (pc := 100) (lv' := [(7, zI ((((i54 : Nat) : Int) - k) + 1)), (5, zI ((zrep (brI r c k b ((i44 : Nat) : Int)) i54 (zrep (brO r c k b) i44 (recM M, 0))).2 + 1)), (6, zI (((i44 : Nat) : Int) - k)), (0, zR 27), (1, zI r), (2, zI c), (3, zI k), (4, zI (zbz b))]) hc 1 rfl rfl (by decide) dX5_brush_100 ?_
                    refine z_goto (pc := 103) (tgt := 54) hc (by decide) dX5_brush_103 ?_
                    refine zJW_sub (lv' := [(7, zI ((((i54 : Nat) : Int) - k) + 1)), (6, zI (((i44 : Nat) : Int) - k)), (5, zI ((zrep (brI r c k b ((i44 : Nat) : Int)) i54 (zrep (brO r c k b) i44 (recM M, 0))).2 + 1)), (0, zR 27), (1, zI r), (2, zI c), (3, zI k), (4, zI (zbz b))]) [0, 2, 1, 3, 4, 5, 6, 7] rfl ?_
                    exact zJW_eq (by rw [show ((i54 : Nat) : Int) - k + 1 = ((i54 + 1 : Nat) : Int) - k by omega, zrep_succ]; first | (rw [brI_no (by omega)]; done) | (rw [brI_t h74 h94]; done) | (rw [brI_f h74 h94])) rfl (by rw [zrep_succ]; first | (rw [brI_no (by omega)]; done) | (rw [brI_t h74 h94]; done) | (rw [brI_f h74 h94])) ih54
      · show zJW X 23 [(0, zR 27), (1, zI r), (2, zI c), (3, zI k), (4, zI (zbz b))] [] M
        refine z_bipush (pc := 23) hc (-2) (by decide) dX5_brush_23 ?_
        exact z_iret (pc := 25) hc he rfl dX5_brush_25 (⟨by rw [if_pos h9, if_neg (by omega)], by rw [if_neg (fun h => by omega)]⟩)
  · show zJW X 12 [(0, zR 27), (1, zI r), (2, zI c), (3, zI k), (4, zI (zbz b))] [] M
    refine z_iconst (pc := 12) hc (-1) dX5_brush_12 ?_
    exact z_iret (pc := 13) hc he rfl dX5_brush_13 (⟨by rw [h9]; rfl, by rw [if_neg (fun h => by rw [h9] at h; exact absurd h.1 (by decide))]⟩)

set_option maxRecDepth 100000 in
set_option maxHeartbeats 4000000 in
theorem ct_X5_smooth (M : Mem) (hI : XI M) (k : Int) (hb_k : -2147483648 ≤ k ∧ k < 2147483648)  : zCt yX5_smooth KX5_smooth [zR 27, zI k] M (fun zv zM => zv = some (if 1 ≤ k ∧ k ≤ 9 then (zrep (smO (tsX (copM (recM M) 1 0 144) 1) k) (tH (tsX (copM (recM M) 1 0 144) 1)).toNat ((copM (recM M) 1 0 144), 0)).2 else -2) ∧ zM = (if 1 ≤ k ∧ k ≤ 9 then (zrep (smO (tsX (copM (recM M) 1 0 144) 1) k) (tH (tsX (copM (recM M) 1 0 144) 1)).toNat ((copM (recM M) 1 0 144), 0)).1 else M)) := by
  obtain ⟨hT, hSa, hH⟩ := id hI
  have hS := hSa 0 (by decide)
  obtain ⟨hs1, hs2, hs3, hs4, hs5, hs6, hs7⟩ := id hS
  have hI1 := recM_XI hI
  obtain ⟨hT1, hSb, hH1⟩ := id hI1
  have hS1 := hSb 0 (by decide)
  obtain ⟨hr1, hr2, hr3, hr4, hr5, hr6, hr7⟩ := id hS1
  have ht1 := recM_ts hI
  have hm0 : recM M 0 = M 0 := recM_off hH (by decide) (by decide) (by omega)
  have hc0 : (copM (recM M) 1 0 144) 0 = M 0 := (copM_offf (by decide) (by decide) (by decide)).trans hm0
  have hSc0 : zSk (copM (recM M) 1 0 144) 0 := zSk_congr (copM_offf (by decide) (by decide) (by decide)) (copM_offf (by decide) (by decide) (by decide)) (copM_offf (by decide) (by decide) (by decide)) hS1
  have hSc1 : zSk (copM (recM M) 1 0 144) 1 := zSk_copM hS1
  have htc : tsX (copM (recM M) 1 0 144) 1 = tsX M 0 := (tsX_copM hS1).trans ht1
  have hP0 : smP (copM (recM M) 1 0 144) ((copM (recM M) 1 0 144), (0 : Int)) := ⟨hSc0, fun _ _ _ => rfl⟩
  have hW9 : tW (tsX (copM (recM M) 1 0 144) 1) = M 0 1 := by rw [htc]; rfl
  have hH9 : tH (tsX (copM (recM M) 1 0 144) 1) = M 0 0 := by rw [htc]; rfl
  refine z_met (by decide) rfl (Nat.le_of_ble_eq_true rfl) (fun X hc he => ?_)
  show zJW X 0 [(0, zR 27), (1, zI k)] [] M
  refine z_ild (pc := 0) hc 1 rfl dX5_smooth_0 ?_
  refine z_iconst (pc := 1) hc 1 dX5_smooth_1 ?_
  refine z_clt (pc := 2) (tgt := 11) hc (by omega) (by decide) dX5_smooth_2 (fun h2 => ?_) (fun h2 => ?_)
  · show zJW X 11 [(0, zR 27), (1, zI k)] [] M
    refine z_bipush (pc := 11) hc (-2) (by decide) dX5_smooth_11 ?_
    exact z_iret (pc := 13) hc he rfl dX5_smooth_13 (⟨by rw [if_neg (by omega)], by rw [if_neg (by omega)]⟩)
  · show zJW X 5 [(0, zR 27), (1, zI k)] [] M
    refine z_ild (pc := 5) hc 1 rfl dX5_smooth_5 ?_
    refine z_bipush (pc := 6) hc 9 (by decide) dX5_smooth_6 ?_
    refine z_cle (pc := 8) (tgt := 14) hc (by omega) (by decide) dX5_smooth_8 (fun h8 => ?_) (fun h8 => ?_)
    · show zJW X 14 [(0, zR 27), (1, zI k)] [] M
      refine z_ald (pc := 14) hc 0 rfl dX5_smooth_14 ?_
      refine fg_X5_36 (pc := 15) hc rfl rfl dX5_smooth_15 ?_
      refine z_ald (pc := 18) hc 0 rfl dX5_smooth_18 ?_
      refine fg_X5_19 (pc := 19) hc rfl rfl dX5_smooth_19 ?_
      refine kc_X5_58 (pc := 22) hc rfl (zfitX (by decide) rfl rfl) rfl (Nat.le_of_ble_eq_true rfl) (ct_X0_record M (by assumption) (by assumption) ) dX5_smooth_22 ?_
      refine z_ald (pc := 25) hc 0 rfl dX5_smooth_25 ?_
      refine fg_X5_23 (pc := 26) hc rfl rfl dX5_smooth_26 ?_
      refine z_ald (pc := 29) hc 0 rfl dX5_smooth_29 ?_
      refine fg_X5_19 (pc := 30) hc rfl rfl dX5_smooth_30 ?_
      refine kc_X5_108 (pc := 33) hc rfl (zfitX (by decide) rfl rfl) rfl (by decide) (Nat.le_of_ble_eq_true rfl) (ct_X3_copyFrom (recM M) 1 0 (by omega) (by omega) (by omega) (by assumption)) dX5_smooth_33 ?_
      refine z_iconst (pc := 36) hc 0 dX5_smooth_36 ?_
      refine z_ist (pc := 37) (lv' := [(2, zI 0), (0, zR 27), (1, zI k)]) hc rfl (by decide) dX5_smooth_37 ?_
      refine z_iconst (pc := 38) hc 0 dX5_smooth_38 ?_
      refine z_ist (pc := 39) (lv' := [(3, zI 0), (2, zI 0), (0, zR 27), (1, zI k)]) hc rfl (by decide) dX5_smooth_39 ?_
      refine z_for ((tH (tsX (copM (recM M) 1 0 144) 1)).toNat) (fun i40 => [(3, zI ((i40 : Nat) : Int)), (2, zI ((zrep (smO (tsX (copM (recM M) 1 0 144) 1) k) i40 ((copM (recM M) 1 0 144), 0)).2)), (0, zR 27), (1, zI k)]) (fun i40 => (zrep (smO (tsX (copM (recM M) 1 0 144) 1) k) i40 ((copM (recM M) 1 0 144), 0)).1) (by rfl) (by rfl) ?_ (fun i40 hi40 ih40 => ?_)
      · show zJW X 40 [(3, zI ((((tH (tsX (copM (recM M) 1 0 144) 1)).toNat) : Nat) : Int)), (2, zI ((zrep (smO (tsX (copM (recM M) 1 0 144) 1) k) ((tH (tsX (copM (recM M) 1 0 144) 1)).toNat) ((copM (recM M) 1 0 144), 0)).2)), (0, zR 27), (1, zI k)] [] ((zrep (smO (tsX (copM (recM M) 1 0 144) 1) k) ((tH (tsX (copM (recM M) 1 0 144) 1)).toNat) ((copM (recM M) 1 0 144), 0)).1)
        have hPx : smP (copM (recM M) 1 0 144) (zrep (smO (tsX (copM (recM M) 1 0 144) 1) k) (tH (tsX (copM (recM M) 1 0 144) 1)).toNat ((copM (recM M) 1 0 144), 0)) := zrep_inv (P := smP (copM (recM M) 1 0 144)) hP0 _ (fun _ _ _ hx => smO_P hx)
        have hx0 : (zrep (smO (tsX (copM (recM M) 1 0 144) 1) k) (tH (tsX (copM (recM M) 1 0 144) 1)).toNat ((copM (recM M) 1 0 144), 0)).1 0 = M 0 := (hPx.2 0 (by decide) (by decide)).trans hc0
        have hx00 := congrFun hx0 0
        refine z_ild (pc := 40) hc 0 rfl dX5_smooth_40 ?_
        refine z_ald (pc := 41) hc 2 rfl dX5_smooth_41 ?_
        refine fg_X5_19 (pc := 42) hc rfl rfl dX5_smooth_42 ?_
        refine fg_X5_95 (pc := 45) hc rfl rfl (by decide) dX5_smooth_45 ?_
        skip
        refine z_cge (pc := 48) (tgt := 139) hc (by omega) (by decide) dX5_smooth_48 (fun h48 => ?_) (fun h48 => ?_)
        · show zJW X 139 [(3, zI ((((tH (tsX (copM (recM M) 1 0 144) 1)).toNat) : Nat) : Int)), (2, zI ((zrep (smO (tsX (copM (recM M) 1 0 144) 1) k) ((tH (tsX (copM (recM M) 1 0 144) 1)).toNat) ((copM (recM M) 1 0 144), 0)).2)), (0, zR 27), (1, zI k)] [] ((zrep (smO (tsX (copM (recM M) 1 0 144) 1) k) ((tH (tsX (copM (recM M) 1 0 144) 1)).toNat) ((copM (recM M) 1 0 144), 0)).1)
          refine z_ild (pc := 139) hc 1 rfl dX5_smooth_139 ?_
          exact z_iret (pc := 140) hc he rfl dX5_smooth_140 (⟨by rw [if_pos (by omega)], by rw [if_pos (by omega)]⟩)
        · exfalso; omega
      · show zJW X 40 [(3, zI ((i40 : Nat) : Int)), (2, zI ((zrep (smO (tsX (copM (recM M) 1 0 144) 1) k) i40 ((copM (recM M) 1 0 144), 0)).2)), (0, zR 27), (1, zI k)] [] ((zrep (smO (tsX (copM (recM M) 1 0 144) 1) k) i40 ((copM (recM M) 1 0 144), 0)).1)
        have hP40 : smP (copM (recM M) 1 0 144) (zrep (smO (tsX (copM (recM M) 1 0 144) 1) k) i40 ((copM (recM M) 1 0 144), 0)) := zrep_inv (P := smP (copM (recM M) 1 0 144)) hP0 _ (fun _ _ _ hx => smO_P hx)
        have h400 : (zrep (smO (tsX (copM (recM M) 1 0 144) 1) k) i40 ((copM (recM M) 1 0 144), 0)).1 0 = M 0 := (hP40.2 0 (by decide) (by decide)).trans hc0
        have h4000 := congrFun h400 0
        refine z_ild (pc := 40) hc 0 rfl dX5_smooth_40 ?_
        refine z_ald (pc := 41) hc 2 rfl dX5_smooth_41 ?_
        refine fg_X5_19 (pc := 42) hc rfl rfl dX5_smooth_42 ?_
        refine fg_X5_95 (pc := 45) hc rfl rfl (by decide) dX5_smooth_45 ?_
        skip
        refine z_cge (pc := 48) (tgt := 139) hc (by omega) (by decide) dX5_smooth_48 (fun h48 => ?_) (fun h48 => ?_)
        · exfalso; omega
        · show zJW X 51 [(3, zI ((i40 : Nat) : Int)), (2, zI ((zrep (smO (tsX (copM (recM M) 1 0 144) 1) k) i40 ((copM (recM M) 1 0 144), 0)).2)), (0, zR 27), (1, zI k)] [] ((zrep (smO (tsX (copM (recM M) 1 0 144) 1) k) i40 ((copM (recM M) 1 0 144), 0)).1)
          refine z_iconst (pc := 51) hc 0 dX5_smooth_51 ?_
          refine z_isw (pc := 52) (lv' := [(4, zI 0), (3, zI ((i40 : Nat) : Int)), (2, zI ((zrep (smO (tsX (copM (recM M) 1 0 144) 1) k) i40 ((copM (recM M) 1 0 144), 0)).2)), (0, zR 27), (1, zI k)]) hc rfl (by decide) dX5_smooth_52 ?_
          refine z_for ((tW (tsX (copM (recM M) 1 0 144) 1)).toNat) (fun i54 => [(4, zI ((i54 : Nat) : Int)), (3, zI ((i40 : Nat) : Int)), (2, zI ((zrep (smI (tsX (copM (recM M) 1 0 144) 1) k ((i40 : Nat) : Int)) i54 (zrep (smO (tsX (copM (recM M) 1 0 144) 1) k) i40 ((copM (recM M) 1 0 144), 0))).2)), (0, zR 27), (1, zI k)]) (fun i54 => (zrep (smI (tsX (copM (recM M) 1 0 144) 1) k ((i40 : Nat) : Int)) i54 (zrep (smO (tsX (copM (recM M) 1 0 144) 1) k) i40 ((copM (recM M) 1 0 144), 0))).1) (by rfl) (by rfl) ?_ (fun i54 hi54 ih54 => ?_)
          · show zJW X 54 [(4, zI ((((tW (tsX (copM (recM M) 1 0 144) 1)).toNat) : Nat) : Int)), (3, zI ((i40 : Nat) : Int)), (2, zI ((zrep (smI (tsX (copM (recM M) 1 0 144) 1) k ((i40 : Nat) : Int)) ((tW (tsX (copM (recM M) 1 0 144) 1)).toNat) (zrep (smO (tsX (copM (recM M) 1 0 144) 1) k) i40 ((copM (recM M) 1 0 144), 0))).2)), (0, zR 27), (1, zI k)] [] ((zrep (smI (tsX (copM (recM M) 1 0 144) 1) k ((i40 : Nat) : Int)) ((tW (tsX (copM (recM M) 1 0 144) 1)).toNat) (zrep (smO (tsX (copM (recM M) 1 0 144) 1) k) i40 ((copM (recM M) 1 0 144), 0))).1)
            have hPy : smP (copM (recM M) 1 0 144) (zrep (smI (tsX (copM (recM M) 1 0 144) 1) k ((i40 : Nat) : Int)) (tW (tsX (copM (recM M) 1 0 144) 1)).toNat (zrep (smO (tsX (copM (recM M) 1 0 144) 1) k) i40 ((copM (recM M) 1 0 144), 0))) := zrep_inv (P := smP (copM (recM M) 1 0 144)) hP40 _ (fun _ _ _ hx => smI_P hx)
            have hy0 : (zrep (smI (tsX (copM (recM M) 1 0 144) 1) k ((i40 : Nat) : Int)) (tW (tsX (copM (recM M) 1 0 144) 1)).toNat (zrep (smO (tsX (copM (recM M) 1 0 144) 1) k) i40 ((copM (recM M) 1 0 144), 0))).1 0 = M 0 := (hPy.2 0 (by decide) (by decide)).trans hc0
            have hy01 := congrFun hy0 1
            refine z_ilw (pc := 54) hc 0 rfl dX5_smooth_54 ?_
            refine z_ald (pc := 56) hc 3 rfl dX5_smooth_56 ?_
            refine fg_X5_19 (pc := 57) hc rfl rfl dX5_smooth_57 ?_
            refine fg_X5_99 (pc := 60) hc rfl rfl (by decide) dX5_smooth_60 ?_
            refine z_cge (pc := 63) (tgt := 133) hc (by omega) (by decide) dX5_smooth_63 (fun h63 => ?_) (fun h63 => ?_)
            · show zJW X 133 [(4, zI ((((tW (tsX (copM (recM M) 1 0 144) 1)).toNat) : Nat) : Int)), (3, zI ((i40 : Nat) : Int)), (2, zI ((zrep (smI (tsX (copM (recM M) 1 0 144) 1) k ((i40 : Nat) : Int)) ((tW (tsX (copM (recM M) 1 0 144) 1)).toNat) (zrep (smO (tsX (copM (recM M) 1 0 144) 1) k) i40 ((copM (recM M) 1 0 144), 0))).2)), (0, zR 27), (1, zI k)] [] ((zrep (smI (tsX (copM (recM M) 1 0 144) 1) k ((i40 : Nat) : Int)) ((tW (tsX (copM (recM M) 1 0 144) 1)).toNat) (zrep (smO (tsX (copM (recM M) 1 0 144) 1) k) i40 ((copM (recM M) 1 0 144), 0))).1)
              refine z_iinc (pc := 133) (lv' := [(3, zI (((i40 : Nat) : Int) + 1)), (4, zI ((((tW (tsX (copM (recM M) 1 0 144) 1)).toNat) : Nat) : Int)), (2, zI ((zrep (smI (tsX (copM (recM M) 1 0 144) 1) k ((i40 : Nat) : Int)) ((tW (tsX (copM (recM M) 1 0 144) 1)).toNat) (zrep (smO (tsX (copM (recM M) 1 0 144) 1) k) i40 ((copM (recM M) 1 0 144), 0))).2)), (0, zR 27), (1, zI k)]) hc 1 rfl rfl (by decide) dX5_smooth_133 ?_
              refine z_goto (pc := 136) (tgt := 40) hc (by decide) dX5_smooth_136 ?_
              refine zJW_sub (lv' := [(3, zI (((i40 : Nat) : Int) + 1)), (2, zI ((zrep (smI (tsX (copM (recM M) 1 0 144) 1) k ((i40 : Nat) : Int)) ((tW (tsX (copM (recM M) 1 0 144) 1)).toNat) (zrep (smO (tsX (copM (recM M) 1 0 144) 1) k) i40 ((copM (recM M) 1 0 144), 0))).2)), (0, zR 27), (1, zI k)]) [0, 2, 3, 4] rfl ?_
              exact zJW_eq (by rfl) rfl (by rfl) ih40
            · exfalso; omega
          · show zJW X 54 [(4, zI ((i54 : Nat) : Int)), (3, zI ((i40 : Nat) : Int)), (2, zI ((zrep (smI (tsX (copM (recM M) 1 0 144) 1) k ((i40 : Nat) : Int)) i54 (zrep (smO (tsX (copM (recM M) 1 0 144) 1) k) i40 ((copM (recM M) 1 0 144), 0))).2)), (0, zR 27), (1, zI k)] [] ((zrep (smI (tsX (copM (recM M) 1 0 144) 1) k ((i40 : Nat) : Int)) i54 (zrep (smO (tsX (copM (recM M) 1 0 144) 1) k) i40 ((copM (recM M) 1 0 144), 0))).1)
            have hP54 : smP (copM (recM M) 1 0 144) (zrep (smI (tsX (copM (recM M) 1 0 144) 1) k ((i40 : Nat) : Int)) i54 (zrep (smO (tsX (copM (recM M) 1 0 144) 1) k) i40 ((copM (recM M) 1 0 144), 0))) := zrep_inv (P := smP (copM (recM M) 1 0 144)) hP40 _ (fun _ _ _ hx => smI_P hx)
            have h540 : (zrep (smI (tsX (copM (recM M) 1 0 144) 1) k ((i40 : Nat) : Int)) i54 (zrep (smO (tsX (copM (recM M) 1 0 144) 1) k) i40 ((copM (recM M) 1 0 144), 0))).1 0 = M 0 := (hP54.2 0 (by decide) (by decide)).trans hc0
            have h5401 := congrFun h540 1
            obtain ⟨hsp1, hsp2⟩ := smP_spare hP54 hSc1
            have hq0 := hP54.1
            have hab := arT_bd (tsX (copM (recM M) 1 0 144) 1) ((i40 : Nat) : Int) ((i54 : Nat) : Int)
            have hbb := rdZ_bd hab
            have hlb := zbz_bd (laT (tsX (copM (recM M) 1 0 144) 1) ((i40 : Nat) : Int) ((i54 : Nat) : Int))
            refine z_ilw (pc := 54) hc 0 rfl dX5_smooth_54 ?_
            refine z_ald (pc := 56) hc 3 rfl dX5_smooth_56 ?_
            refine fg_X5_19 (pc := 57) hc rfl rfl dX5_smooth_57 ?_
            refine fg_X5_99 (pc := 60) hc rfl rfl (by decide) dX5_smooth_60 ?_
            refine z_cge (pc := 63) (tgt := 133) hc (by omega) (by decide) dX5_smooth_63 (fun h63 => ?_) (fun h63 => ?_)
            · exfalso; omega
            · show zJW X 66 [(4, zI ((i54 : Nat) : Int)), (3, zI ((i40 : Nat) : Int)), (2, zI ((zrep (smI (tsX (copM (recM M) 1 0 144) 1) k ((i40 : Nat) : Int)) i54 (zrep (smO (tsX (copM (recM M) 1 0 144) 1) k) i40 ((copM (recM M) 1 0 144), 0))).2)), (0, zR 27), (1, zI k)] [] ((zrep (smI (tsX (copM (recM M) 1 0 144) 1) k ((i40 : Nat) : Int)) i54 (zrep (smO (tsX (copM (recM M) 1 0 144) 1) k) i40 ((copM (recM M) 1 0 144), 0))).1)
              refine z_ald (pc := 66) hc 3 rfl dX5_smooth_66 ?_
              refine fg_X5_23 (pc := 67) hc rfl rfl dX5_smooth_67 ?_
              refine z_ild (pc := 70) hc 1 rfl dX5_smooth_70 ?_
              refine z_ilw (pc := 71) hc 0 rfl dX5_smooth_71 ?_
              refine kc_X5_111 (pc := 73) hc rfl (zfitX (by decide) rfl rfl) rfl (by decide) (Nat.le_of_ble_eq_true rfl) (ct_X3_surroundingsOf ((zrep (smI (tsX (copM (recM M) 1 0 144) 1) k ((i40 : Nat) : Int)) i54 (zrep (smO (tsX (copM (recM M) 1 0 144) 1) k) i40 ((copM (recM M) 1 0 144), 0))).1) 1 (by omega) (by assumption) ((i40 : Nat) : Int) ((i54 : Nat) : Int) (by omega) (by omega)) dX5_smooth_73 ?_
              rw [hsp2]
              refine kc_X5_114 (pc := 76) hc rfl (zfit0 (by decide) rfl rfl) (Nat.le_of_ble_eq_true rfl) (ct_J6_bitCount_0f7a4 ((zrep (smI (tsX (copM (recM M) 1 0 144) 1) k ((i40 : Nat) : Int)) i54 (zrep (smO (tsX (copM (recM M) 1 0 144) 1) k) i40 ((copM (recM M) 1 0 144), 0))).1) (arT (tsX (copM (recM M) 1 0 144) 1) ((i40 : Nat) : Int) ((i54 : Nat) : Int)) (by first | omega | exact zxr_bd (by omega) (by omega))) dX5_smooth_76 ?_
              refine z_ald (pc := 79) hc 3 rfl dX5_smooth_79 ?_
              refine fg_X5_23 (pc := 80) hc rfl rfl dX5_smooth_80 ?_
              refine z_ild (pc := 83) hc 1 rfl dX5_smooth_83 ?_
              refine z_ilw (pc := 84) hc 0 rfl dX5_smooth_84 ?_
              refine kc_X5_77 (pc := 86) hc rfl (zfitX (by decide) rfl rfl) rfl (by decide) (Nat.le_of_ble_eq_true rfl) (ct_X3_isLandAt ((zrep (smI (tsX (copM (recM M) 1 0 144) 1) k ((i40 : Nat) : Int)) i54 (zrep (smO (tsX (copM (recM M) 1 0 144) 1) k) i40 ((copM (recM M) 1 0 144), 0))).1) 1 (by omega) (by first | assumption ) ((i40 : Nat) : Int) ((i54 : Nat) : Int) (by omega) (by omega)) dX5_smooth_86 ?_
              rw [hsp2]
              have hJ98 : zJW X 98 [(4, zI ((i54 : Nat) : Int)), (3, zI ((i40 : Nat) : Int)), (2, zI ((zrep (smI (tsX (copM (recM M) 1 0 144) 1) k ((i40 : Nat) : Int)) i54 (zrep (smO (tsX (copM (recM M) 1 0 144) 1) k) i40 ((copM (recM M) 1 0 144), 0))).2)), (0, zR 27), (1, zI k)] [zI (bcZ (arT (tsX (copM (recM M) 1 0 144) 1) ((i40 : Nat) : Int) ((i54 : Nat) : Int)) + zbz (laT (tsX (copM (recM M) 1 0 144) 1) ((i40 : Nat) : Int) ((i54 : Nat) : Int)))] ((zrep (smI (tsX (copM (recM M) 1 0 144) 1) k ((i40 : Nat) : Int)) i54 (zrep (smO (tsX (copM (recM M) 1 0 144) 1) k) i40 ((copM (recM M) 1 0 144), 0))).1) := by
                refine z_isw (pc := 98) (lv' := [(5, zI (bcZ (arT (tsX (copM (recM M) 1 0 144) 1) ((i40 : Nat) : Int) ((i54 : Nat) : Int)) + zbz (laT (tsX (copM (recM M) 1 0 144) 1) ((i40 : Nat) : Int) ((i54 : Nat) : Int)))), (4, zI ((i54 : Nat) : Int)), (3, zI ((i40 : Nat) : Int)), (2, zI ((zrep (smI (tsX (copM (recM M) 1 0 144) 1) k ((i40 : Nat) : Int)) i54 (zrep (smO (tsX (copM (recM M) 1 0 144) 1) k) i40 ((copM (recM M) 1 0 144), 0))).2)), (0, zR 27), (1, zI k)]) hc rfl (by decide) dX5_smooth_98 ?_
                refine z_ald (pc := 100) hc 4 rfl dX5_smooth_100 ?_
                refine fg_X5_19 (pc := 101) hc rfl rfl dX5_smooth_101 ?_
                refine z_ild (pc := 104) hc 2 rfl dX5_smooth_104 ?_
                refine z_ilw (pc := 105) hc 1 rfl dX5_smooth_105 ?_
                refine z_ilw (pc := 107) hc 0 rfl dX5_smooth_107 ?_
                refine z_ild (pc := 109) hc 5 rfl dX5_smooth_109 ?_
                have hJ118 : zJW X 118 [(5, zI (bcZ (arT (tsX (copM (recM M) 1 0 144) 1) ((i40 : Nat) : Int) ((i54 : Nat) : Int)) + zbz (laT (tsX (copM (recM M) 1 0 144) 1) ((i40 : Nat) : Int) ((i54 : Nat) : Int)))), (4, zI ((i54 : Nat) : Int)), (3, zI ((i40 : Nat) : Int)), (2, zI ((zrep (smI (tsX (copM (recM M) 1 0 144) 1) k ((i40 : Nat) : Int)) i54 (zrep (smO (tsX (copM (recM M) 1 0 144) 1) k) i40 ((copM (recM M) 1 0 144), 0))).2)), (0, zR 27), (1, zI k)] [zI (zbz (decide (k ≤ bcZ (arT (tsX (copM (recM M) 1 0 144) 1) ((i40 : Nat) : Int) ((i54 : Nat) : Int)) + zbz (laT (tsX (copM (recM M) 1 0 144) 1) ((i40 : Nat) : Int) ((i54 : Nat) : Int))))), zI ((i54 : Nat) : Int), zI ((i40 : Nat) : Int), zR 0] ((zrep (smI (tsX (copM (recM M) 1 0 144) 1) k ((i40 : Nat) : Int)) i54 (zrep (smO (tsX (copM (recM M) 1 0 144) 1) k) i40 ((copM (recM M) 1 0 144), 0))).1) := by
                  refine kc_X5_84 (pc := 118) hc rfl (zfitX (by decide) rfl rfl) rfl (by decide) (Nat.le_of_ble_eq_true rfl) (ct_X3_putKind ((zrep (smI (tsX (copM (recM M) 1 0 144) 1) k ((i40 : Nat) : Int)) i54 (zrep (smO (tsX (copM (recM M) 1 0 144) 1) k) i40 ((copM (recM M) 1 0 144), 0))).1) 0 (by omega) (by assumption) ((i40 : Nat) : Int) ((i54 : Nat) : Int) (by omega) (by omega) (decide (k ≤ bcZ (arT (tsX (copM (recM M) 1 0 144) 1) ((i40 : Nat) : Int) ((i54 : Nat) : Int)) + zbz (laT (tsX (copM (recM M) 1 0 144) 1) ((i40 : Nat) : Int) ((i54 : Nat) : Int))))) dX5_smooth_118 ?_
                  refine z_beq (pc := 121) (tgt := 127) hc (by decide) dX5_smooth_121 (fun h121 => ?_) (fun h121 => ?_)
                  · show zJW X 127 [(5, zI (bcZ (arT (tsX (copM (recM M) 1 0 144) 1) ((i40 : Nat) : Int) ((i54 : Nat) : Int)) + zbz (laT (tsX (copM (recM M) 1 0 144) 1) ((i40 : Nat) : Int) ((i54 : Nat) : Int)))), (4, zI ((i54 : Nat) : Int)), (3, zI ((i40 : Nat) : Int)), (2, zI ((zrep (smI (tsX (copM (recM M) 1 0 144) 1) k ((i40 : Nat) : Int)) i54 (zrep (smO (tsX (copM (recM M) 1 0 144) 1) k) i40 ((copM (recM M) 1 0 144), 0))).2)), (0, zR 27), (1, zI k)] [] (putK ((zrep (smI (tsX (copM (recM M) 1 0 144) 1) k ((i40 : Nat) : Int)) i54 (zrep (smO (tsX (copM (recM M) 1 0 144) 1) k) i40 ((copM (recM M) 1 0 144), 0))).1) 0 ((i40 : Nat) : Int) ((i54 : Nat) : Int) (decide (k ≤ bcZ (arT (tsX (copM (recM M) 1 0 144) 1) ((i40 : Nat) : Int) ((i54 : Nat) : Int)) + zbz (laT (tsX (copM (recM M) 1 0 144) 1) ((i40 : Nat) : Int) ((i54 : Nat) : Int)))))
                    refine z_iinc (pc := 127) (lv' := [(4, zI (((i54 : Nat) : Int) + 1)), (5, zI (bcZ (arT (tsX (copM (recM M) 1 0 144) 1) ((i40 : Nat) : Int) ((i54 : Nat) : Int)) + zbz (laT (tsX (copM (recM M) 1 0 144) 1) ((i40 : Nat) : Int) ((i54 : Nat) : Int)))), (3, zI ((i40 : Nat) : Int)), (2, zI ((zrep (smI (tsX (copM (recM M) 1 0 144) 1) k ((i40 : Nat) : Int)) i54 (zrep (smO (tsX (copM (recM M) 1 0 144) 1) k) i40 ((copM (recM M) 1 0 144), 0))).2)), (0, zR 27), (1, zI k)]) hc 1 rfl rfl (by decide) dX5_smooth_127 ?_
                    refine z_goto (pc := 130) (tgt := 54) hc (by decide) dX5_smooth_130 ?_
                    refine zJW_sub (lv' := [(4, zI (((i54 : Nat) : Int) + 1)), (3, zI ((i40 : Nat) : Int)), (2, zI ((zrep (smI (tsX (copM (recM M) 1 0 144) 1) k ((i40 : Nat) : Int)) i54 (zrep (smO (tsX (copM (recM M) 1 0 144) 1) k) i40 ((copM (recM M) 1 0 144), 0))).2)), (0, zR 27), (1, zI k)]) [0, 2, 3, 4, 5] rfl ?_
                    exact zJW_eq (by rw [zrep_succ]; first | (rw [smI_t h121]; rfl) | (rw [smI_f h121]; rfl)) rfl (by rw [zrep_succ]; first | (rw [smI_t h121]; done) | (rw [smI_f h121])) ih54
                  · show zJW X 124 [(5, zI (bcZ (arT (tsX (copM (recM M) 1 0 144) 1) ((i40 : Nat) : Int) ((i54 : Nat) : Int)) + zbz (laT (tsX (copM (recM M) 1 0 144) 1) ((i40 : Nat) : Int) ((i54 : Nat) : Int)))), (4, zI ((i54 : Nat) : Int)), (3, zI ((i40 : Nat) : Int)), (2, zI ((zrep (smI (tsX (copM (recM M) 1 0 144) 1) k ((i40 : Nat) : Int)) i54 (zrep (smO (tsX (copM (recM M) 1 0 144) 1) k) i40 ((copM (recM M) 1 0 144), 0))).2)), (0, zR 27), (1, zI k)] [] (putK ((zrep (smI (tsX (copM (recM M) 1 0 144) 1) k ((i40 : Nat) : Int)) i54 (zrep (smO (tsX (copM (recM M) 1 0 144) 1) k) i40 ((copM (recM M) 1 0 144), 0))).1) 0 ((i40 : Nat) : Int) ((i54 : Nat) : Int) (decide (k ≤ bcZ (arT (tsX (copM (recM M) 1 0 144) 1) ((i40 : Nat) : Int) ((i54 : Nat) : Int)) + zbz (laT (tsX (copM (recM M) 1 0 144) 1) ((i40 : Nat) : Int) ((i54 : Nat) : Int)))))
                    refine z_iinc (pc := 124) (lv' := [(2, zI ((zrep (smI (tsX (copM (recM M) 1 0 144) 1) k ((i40 : Nat) : Int)) i54 (zrep (smO (tsX (copM (recM M) 1 0 144) 1) k) i40 ((copM (recM M) 1 0 144), 0))).2 + 1)), (5, zI (bcZ (arT (tsX (copM (recM M) 1 0 144) 1) ((i40 : Nat) : Int) ((i54 : Nat) : Int)) + zbz (laT (tsX (copM (recM M) 1 0 144) 1) ((i40 : Nat) : Int) ((i54 : Nat) : Int)))), (4, zI ((i54 : Nat) : Int)), (3, zI ((i40 : Nat) : Int)), (0, zR 27), (1, zI k)]) hc 3 rfl rfl (by decide) dX5_smooth_124 ?_
                    refine z_iinc (pc := 127) (lv' := [(4, zI (((i54 : Nat) : Int) + 1)), (2, zI ((zrep (smI (tsX (copM (recM M) 1 0 144) 1) k ((i40 : Nat) : Int)) i54 (zrep (smO (tsX (copM (recM M) 1 0 144) 1) k) i40 ((copM (recM M) 1 0 144), 0))).2 + 1)), (5, zI (bcZ (arT (tsX (copM (recM M) 1 0 144) 1) ((i40 : Nat) : Int) ((i54 : Nat) : Int)) + zbz (laT (tsX (copM (recM M) 1 0 144) 1) ((i40 : Nat) : Int) ((i54 : Nat) : Int)))), (3, zI ((i40 : Nat) : Int)), (0, zR 27), (1, zI k)]) hc 2 rfl rfl (by decide) dX5_smooth_127 ?_
                    refine z_goto (pc := 130) (tgt := 54) hc (by decide) dX5_smooth_130 ?_
                    refine zJW_sub (lv' := [(4, zI (((i54 : Nat) : Int) + 1)), (3, zI ((i40 : Nat) : Int)), (2, zI ((zrep (smI (tsX (copM (recM M) 1 0 144) 1) k ((i40 : Nat) : Int)) i54 (zrep (smO (tsX (copM (recM M) 1 0 144) 1) k) i40 ((copM (recM M) 1 0 144), 0))).2 + 1)), (0, zR 27), (1, zI k)]) [0, 3, 1, 4, 5] rfl ?_
                    exact zJW_eq (by rw [zrep_succ]; first | (rw [smI_t h121]; rfl) | (rw [smI_f h121]; rfl)) rfl (by rw [zrep_succ]; first | (rw [smI_t h121]; done) | (rw [smI_f h121])) ih54
                refine z_clt (pc := 110) (tgt := 117) hc (by omega) (by decide) dX5_smooth_110 (fun h110 => ?_) (fun h110 => ?_)
                · show zJW X 117 [(5, zI (bcZ (arT (tsX (copM (recM M) 1 0 144) 1) ((i40 : Nat) : Int) ((i54 : Nat) : Int)) + zbz (laT (tsX (copM (recM M) 1 0 144) 1) ((i40 : Nat) : Int) ((i54 : Nat) : Int)))), (4, zI ((i54 : Nat) : Int)), (3, zI ((i40 : Nat) : Int)), (2, zI ((zrep (smI (tsX (copM (recM M) 1 0 144) 1) k ((i40 : Nat) : Int)) i54 (zrep (smO (tsX (copM (recM M) 1 0 144) 1) k) i40 ((copM (recM M) 1 0 144), 0))).2)), (0, zR 27), (1, zI k)] [zI ((i54 : Nat) : Int), zI ((i40 : Nat) : Int), zR 0] ((zrep (smI (tsX (copM (recM M) 1 0 144) 1) k ((i40 : Nat) : Int)) i54 (zrep (smO (tsX (copM (recM M) 1 0 144) 1) k) i40 ((copM (recM M) 1 0 144), 0))).1)
                  refine z_iconst (pc := 117) hc 0 dX5_smooth_117 ?_
                  exact zJW_eq (by rfl) (by first | rw [decide_eq_true (by omega)] <;> rfl | rw [decide_eq_false (by omega)] <;> rfl) (by rfl) hJ118
                · show zJW X 113 [(5, zI (bcZ (arT (tsX (copM (recM M) 1 0 144) 1) ((i40 : Nat) : Int) ((i54 : Nat) : Int)) + zbz (laT (tsX (copM (recM M) 1 0 144) 1) ((i40 : Nat) : Int) ((i54 : Nat) : Int)))), (4, zI ((i54 : Nat) : Int)), (3, zI ((i40 : Nat) : Int)), (2, zI ((zrep (smI (tsX (copM (recM M) 1 0 144) 1) k ((i40 : Nat) : Int)) i54 (zrep (smO (tsX (copM (recM M) 1 0 144) 1) k) i40 ((copM (recM M) 1 0 144), 0))).2)), (0, zR 27), (1, zI k)] [zI ((i54 : Nat) : Int), zI ((i40 : Nat) : Int), zR 0] ((zrep (smI (tsX (copM (recM M) 1 0 144) 1) k ((i40 : Nat) : Int)) i54 (zrep (smO (tsX (copM (recM M) 1 0 144) 1) k) i40 ((copM (recM M) 1 0 144), 0))).1)
                  refine z_iconst (pc := 113) hc 1 dX5_smooth_113 ?_
                  refine z_goto (pc := 114) (tgt := 118) hc (by decide) dX5_smooth_114 ?_
                  exact zJW_eq (by rfl) (by first | rw [decide_eq_true (by omega)] <;> rfl | rw [decide_eq_false (by omega)] <;> rfl) (by rfl) hJ118
              refine z_beq (pc := 89) (tgt := 96) hc (by decide) dX5_smooth_89 (fun h89 => ?_) (fun h89 => ?_)
              · show zJW X 96 [(4, zI ((i54 : Nat) : Int)), (3, zI ((i40 : Nat) : Int)), (2, zI ((zrep (smI (tsX (copM (recM M) 1 0 144) 1) k ((i40 : Nat) : Int)) i54 (zrep (smO (tsX (copM (recM M) 1 0 144) 1) k) i40 ((copM (recM M) 1 0 144), 0))).2)), (0, zR 27), (1, zI k)] [zI (bcZ (arT (tsX (copM (recM M) 1 0 144) 1) ((i40 : Nat) : Int) ((i54 : Nat) : Int)))] ((zrep (smI (tsX (copM (recM M) 1 0 144) 1) k ((i40 : Nat) : Int)) i54 (zrep (smO (tsX (copM (recM M) 1 0 144) 1) k) i40 ((copM (recM M) 1 0 144), 0))).1)
                refine z_iconst (pc := 96) hc 0 dX5_smooth_96 ?_
                refine z_iadd (pc := 97) hc dX5_smooth_97 ?_
                exact zJW_eq (by rfl) (by rw [h89]; rfl) (by rfl) hJ98
              · show zJW X 92 [(4, zI ((i54 : Nat) : Int)), (3, zI ((i40 : Nat) : Int)), (2, zI ((zrep (smI (tsX (copM (recM M) 1 0 144) 1) k ((i40 : Nat) : Int)) i54 (zrep (smO (tsX (copM (recM M) 1 0 144) 1) k) i40 ((copM (recM M) 1 0 144), 0))).2)), (0, zR 27), (1, zI k)] [zI (bcZ (arT (tsX (copM (recM M) 1 0 144) 1) ((i40 : Nat) : Int) ((i54 : Nat) : Int)))] ((zrep (smI (tsX (copM (recM M) 1 0 144) 1) k ((i40 : Nat) : Int)) i54 (zrep (smO (tsX (copM (recM M) 1 0 144) 1) k) i40 ((copM (recM M) 1 0 144), 0))).1)
                refine z_iconst (pc := 92) hc 1 dX5_smooth_92 ?_
                refine z_goto (pc := 93) (tgt := 97) hc (by decide) dX5_smooth_93 ?_
                refine z_iadd (pc := 97) hc dX5_smooth_97 ?_
                exact zJW_eq (by rfl) (by rw [h89]; rfl) (by rfl) hJ98
    · show zJW X 11 [(0, zR 27), (1, zI k)] [] M
      refine z_bipush (pc := 11) hc (-2) (by decide) dX5_smooth_11 ?_
      exact z_iret (pc := 13) hc he rfl dX5_smooth_13 (⟨by rw [if_neg (by omega)], by rw [if_neg (by omega)]⟩)
