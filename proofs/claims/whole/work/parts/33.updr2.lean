theorem sq_b11 : ∀ n : Nat, n ≤ 22 → 0 ≤ ((n : Int) - 11) * ((n : Int) - 11) ∧ ((n : Int) - 11) * ((n : Int) - 11) ≤ 121 := by decide +kernel
theorem sq_bdn {x : Int} (h : -11 ≤ x ∧ x ≤ 11) : 0 ≤ x * x ∧ x * x ≤ 121 := by
  have := sq_b11 (x + 11).toNat (by omega)
  rwa [show (((x + 11).toNat : Nat) : Int) - 11 = x from by omega] at this
set_option maxRecDepth 100000 in
set_option maxHeartbeats 4000000 in
theorem ct_X6_brush (M : Mem) (hR : RI M) (r : Int) (hb_r : -2147483648 ≤ r ∧ r < 2147483648) (c : Int) (hb_c : -2147483648 ≤ c ∧ c < 2147483648) (k : Int) (hb_k : -2147483648 ≤ k ∧ k < 2147483648) (b : Bool)  : zCt yX6_brush KX6_brush [zR 38, zI r, zI c, zI k, zI (zbz b)] M (fun zv zM => zv = some (if inT (tsZ (M 39)) r c = true then (if 0 ≤ k ∧ k ≤ 5 then (zrep (brR (M 39 1) r c k b) (M 39 0 * M 39 1).toNat (recR M, 0)).2 else -2) else -1) ∧ zM = (if inT (tsZ (M 39)) r c = true ∧ 0 ≤ k ∧ k ≤ 5 then (zrep (brR (M 39 1) r c k b) (M 39 0 * M 39 1).toNat (recR M, 0)).1 else M)) := by
  obtain ⟨hU, hZ, hO, hH⟩ := id hR
  obtain ⟨hs1, hs2, hs3, hs4, hs5, hs6, hs7⟩ := id hZ
  have hw9 := zhw hs1 hs2 hs3 hs4
  have hR1 := recR_RI hR
  obtain ⟨hU1, hZ1, hO1, hH1⟩ := id hR1
  have e39 : recR M 39 = M 39 := recR_off (by decide) (by decide)
  have hP0 : brP (recR M) (recR M, (0 : Int)) := ⟨hZ1, fun _ _ => rfl, rfl, rfl⟩
  refine z_met (by decide) rfl (Nat.le_of_ble_eq_true rfl) (fun X hc he => ?_)
  show zJW X 0 [(0, zR 38), (1, zI r), (2, zI c), (3, zI k), (4, zI (zbz b))] [] M
  refine z_ald (pc := 0) hc 0 rfl dX6_brush_0 ?_
  refine z_ild (pc := 1) hc 1 rfl dX6_brush_1 ?_
  refine z_ild (pc := 2) hc 2 rfl dX6_brush_2 ?_
  refine kc_X6_90 (pc := 3) hc rfl (zfitX (by decide) rfl rfl) rfl (Nat.le_of_ble_eq_true rfl) (ct_X6_isTile M (by assumption) r (by omega) c (by omega)) dX6_brush_3 ?_
  refine z_bne (pc := 6) (tgt := 11) hc (by decide) dX6_brush_6 (fun h6 => ?_) (fun h6 => ?_)
  · show zJW X 11 [(0, zR 38), (1, zI r), (2, zI c), (3, zI k), (4, zI (zbz b))] [] M
    have h6' := h6
    rw [inT_Z] at h6'
    have h6' := of_decide_eq_true h6'
    have ix6 := zix ⟨h6'.1, h6'.2.1⟩ ⟨h6'.2.2.1, h6'.2.2.2⟩
    refine z_ild (pc := 11) hc 3 rfl dX6_brush_11 ?_
    refine z_iconst (pc := 12) hc 0 dX6_brush_12 ?_
    refine z_iconst (pc := 13) hc 5 dX6_brush_13 ?_
    refine kc_X6_61 (pc := 14) hc rfl (zfit0 (by decide) rfl rfl) (Nat.le_of_ble_eq_true rfl) (ct_X6_in M k 0 5 (by omega) (by omega) (by omega)) dX6_brush_14 ?_
    refine z_bne (pc := 17) (tgt := 23) hc (by decide) dX6_brush_17 (fun h17 => ?_) (fun h17 => ?_)
    · show zJW X 23 [(0, zR 38), (1, zI r), (2, zI c), (3, zI k), (4, zI (zbz b))] [] M
      have h17 := of_decide_eq_true h17
      refine z_ald (pc := 23) hc 0 rfl dX6_brush_23 ?_
      refine kc_X6_77 (pc := 24) hc rfl (zfitX (by decide) rfl rfl) rfl (Nat.le_of_ble_eq_true rfl) (ct_X6_record M (by assumption) ) dX6_brush_24 ?_
      refine z_iconst (pc := 27) hc 0 dX6_brush_27 ?_
      refine z_isw (pc := 28) (lv' := [(5, zI 0), (0, zR 38), (1, zI r), (2, zI c), (3, zI k), (4, zI (zbz b))]) hc rfl (by decide) dX6_brush_28 ?_
      refine z_iconst (pc := 30) hc 0 dX6_brush_30 ?_
      refine z_isw (pc := 31) (lv' := [(6, zI 0), (5, zI 0), (0, zR 38), (1, zI r), (2, zI c), (3, zI k), (4, zI (zbz b))]) hc rfl (by decide) dX6_brush_31 ?_
      refine z_for ((M 39 0 * M 39 1).toNat) (fun i33 => [(6, zI ((i33 : Nat) : Int)), (5, zI ((zrep (brR (M 39 1) r c k b) i33 (recR M, 0)).2)), (0, zR 38), (1, zI r), (2, zI c), (3, zI k), (4, zI (zbz b))]) (fun i33 => (zrep (brR (M 39 1) r c k b) i33 (recR M, 0)).1) (by rfl) (by rfl) ?_ (fun i33 hi33 ih33 => ?_)
      · show zJW X 33 [(6, zI ((((M 39 0 * M 39 1).toNat) : Nat) : Int)), (5, zI ((zrep (brR (M 39 1) r c k b) ((M 39 0 * M 39 1).toNat) (recR M, 0)).2)), (0, zR 38), (1, zI r), (2, zI c), (3, zI k), (4, zI (zbz b))] [] ((zrep (brR (M 39 1) r c k b) ((M 39 0 * M 39 1).toNat) (recR M, 0)).1)
        have hP33 : brP (recR M) (zrep (brR (M 39 1) r c k b) (M 39 0 * M 39 1).toNat (recR M, 0)) := zrep_P hP0 (N := (M 39 0 * M 39 1).toNat) (fun i hi x hx => brR_P (by omega) hx) (Nat.le_refl _)
        have e33 : (zrep (brR (M 39 1) r c k b) (M 39 0 * M 39 1).toNat (recR M, 0)).1 39 0 = M 39 0 := hP33.2.2.1.trans (congrFun e39 0)
        have f33 : (zrep (brR (M 39 1) r c k b) (M 39 0 * M 39 1).toNat (recR M, 0)).1 39 1 = M 39 1 := hP33.2.2.2.trans (congrFun e39 1)
        have g33 : (zrep (brR (M 39 1) r c k b) (M 39 0 * M 39 1).toNat (recR M, 0)).1 39 0 * (zrep (brR (M 39 1) r c k b) (M 39 0 * M 39 1).toNat (recR M, 0)).1 39 1 = M 39 0 * M 39 1 := by rw [e33, f33]
        have z33 := hP33.1
        refine z_ilw (pc := 33) hc 0 rfl dX6_brush_33 ?_
        refine z_ald (pc := 35) hc 2 rfl dX6_brush_35 ?_
        refine kc_X6_116 (pc := 36) hc rfl (zfitX (by decide) rfl rfl) rfl (Nat.le_of_ble_eq_true rfl) (ct_X6_tiles ((zrep (brR (M 39 1) r c k b) ((M 39 0 * M 39 1).toNat) (recR M, 0)).1)) dX6_brush_36 ?_
        refine z_cge (pc := 39) (tgt := 112) hc (by omega) (by decide) dX6_brush_39 (fun h39 => ?_) (fun h39 => ?_)
        · show zJW X 112 [(6, zI ((((M 39 0 * M 39 1).toNat) : Nat) : Int)), (5, zI ((zrep (brR (M 39 1) r c k b) ((M 39 0 * M 39 1).toNat) (recR M, 0)).2)), (0, zR 38), (1, zI r), (2, zI c), (3, zI k), (4, zI (zbz b))] [] ((zrep (brR (M 39 1) r c k b) ((M 39 0 * M 39 1).toNat) (recR M, 0)).1)
          refine z_ilw (pc := 112) hc 1 rfl dX6_brush_112 ?_
          exact z_iret (pc := 114) hc he rfl dX6_brush_114 (⟨by rw [if_pos h6, if_pos (by omega)], by rw [if_pos ⟨h6, by omega⟩]⟩)
        · exfalso; omega
      · show zJW X 33 [(6, zI ((i33 : Nat) : Int)), (5, zI ((zrep (brR (M 39 1) r c k b) i33 (recR M, 0)).2)), (0, zR 38), (1, zI r), (2, zI c), (3, zI k), (4, zI (zbz b))] [] ((zrep (brR (M 39 1) r c k b) i33 (recR M, 0)).1)
        have hP33 : brP (recR M) (zrep (brR (M 39 1) r c k b) i33 (recR M, 0)) := zrep_P hP0 (N := (M 39 0 * M 39 1).toNat) (fun i hi x hx => brR_P (by omega) hx) (Nat.le_of_lt hi33)
        have e33 : (zrep (brR (M 39 1) r c k b) i33 (recR M, 0)).1 39 0 = M 39 0 := hP33.2.2.1.trans (congrFun e39 0)
        have f33 : (zrep (brR (M 39 1) r c k b) i33 (recR M, 0)).1 39 1 = M 39 1 := hP33.2.2.2.trans (congrFun e39 1)
        have g33 : (zrep (brR (M 39 1) r c k b) i33 (recR M, 0)).1 39 0 * (zrep (brR (M 39 1) r c k b) i33 (recR M, 0)).1 39 1 = M 39 0 * M 39 1 := by rw [e33, f33]
        have z33 := hP33.1
        refine z_ilw (pc := 33) hc 0 rfl dX6_brush_33 ?_
        refine z_ald (pc := 35) hc 2 rfl dX6_brush_35 ?_
        refine kc_X6_116 (pc := 36) hc rfl (zfitX (by decide) rfl rfl) rfl (Nat.le_of_ble_eq_true rfl) (ct_X6_tiles ((zrep (brR (M 39 1) r c k b) i33 (recR M, 0)).1)) dX6_brush_36 ?_
        refine z_cge (pc := 39) (tgt := 112) hc (by omega) (by decide) dX6_brush_39 (fun h39 => ?_) (fun h39 => ?_)
        · exfalso; omega
        · show zJW X 42 [(6, zI ((i33 : Nat) : Int)), (5, zI ((zrep (brR (M 39 1) r c k b) i33 (recR M, 0)).2)), (0, zR 38), (1, zI r), (2, zI c), (3, zI k), (4, zI (zbz b))] [] ((zrep (brR (M 39 1) r c k b) i33 (recR M, 0)).1)
          refine z_ilw (pc := 42) hc 0 rfl dX6_brush_42 ?_
          refine z_ald (pc := 44) hc 2 rfl dX6_brush_44 ?_
          refine fg_X6_7 (pc := 45) hc rfl rfl dX6_brush_45 ?_
          refine z_iconst (pc := 48) hc 1 dX6_brush_48 ?_
          refine z_iald (pc := 49) hc rfl rfl rfl (by decide) (by omega) dX6_brush_49 ?_
          rw [f33]
          refine z_idiv (pc := 50) hc (by omega) dX6_brush_50 ?_
          refine z_ild (pc := 51) hc 3 rfl dX6_brush_51 ?_
          refine z_isub (pc := 52) hc dX6_brush_52 ?_
          refine z_isw (pc := 53) (lv' := [(7, zI ((((i33 : Nat) : Int) / (M 39 1)) - r)), (6, zI ((i33 : Nat) : Int)), (5, zI ((zrep (brR (M 39 1) r c k b) i33 (recR M, 0)).2)), (0, zR 38), (1, zI r), (2, zI c), (3, zI k), (4, zI (zbz b))]) hc rfl (by decide) dX6_brush_53 ?_
          refine z_ilw (pc := 55) hc 1 rfl dX6_brush_55 ?_
          refine z_ald (pc := 57) hc 3 rfl dX6_brush_57 ?_
          refine fg_X6_7 (pc := 58) hc rfl rfl dX6_brush_58 ?_
          refine z_iconst (pc := 61) hc 1 dX6_brush_61 ?_
          refine z_iald (pc := 62) hc rfl rfl rfl (by decide) (by omega) dX6_brush_62 ?_
          rw [f33]
          refine z_irem (pc := 63) hc (by omega) dX6_brush_63 ?_
          refine z_ild (pc := 64) hc 5 rfl dX6_brush_64 ?_
          refine z_isub (pc := 65) hc dX6_brush_65 ?_
          have kx := zkx (w := (M 39 1)) (h := M 39 0) (k := ((i33 : Nat) : Int)) (by omega) (by omega)
          have s1 := sq_bdn (x := (((i33 : Nat) : Int) / (M 39 1) - r)) (by omega)
          have s2 := sq_bdn (x := (((i33 : Nat) : Int) % (M 39 1) - c)) (by omega)
          have s3 := sq_bdn (x := k) (by omega)
          refine z_isw (pc := 66) (lv' := [(8, zI ((((i33 : Nat) : Int) % (M 39 1)) - c)), (7, zI ((((i33 : Nat) : Int) / (M 39 1)) - r)), (6, zI ((i33 : Nat) : Int)), (5, zI ((zrep (brR (M 39 1) r c k b) i33 (recR M, 0)).2)), (0, zR 38), (1, zI r), (2, zI c), (3, zI k), (4, zI (zbz b))]) hc rfl (by decide) dX6_brush_66 ?_
          refine z_ilw (pc := 68) hc 3 rfl dX6_brush_68 ?_
          refine z_ilw (pc := 70) hc 1 rfl dX6_brush_70 ?_
          refine z_ilw (pc := 72) hc 1 rfl dX6_brush_72 ?_
          refine z_imul (pc := 74) hc dX6_brush_74 ?_
          refine z_ilw (pc := 75) hc 0 rfl dX6_brush_75 ?_
          refine z_ilw (pc := 77) hc 0 rfl dX6_brush_77 ?_
          refine z_imul (pc := 79) hc dX6_brush_79 ?_
          refine z_iadd (pc := 80) hc dX6_brush_80 ?_
          refine z_ild (pc := 81) hc 7 rfl dX6_brush_81 ?_
          refine z_ild (pc := 82) hc 7 rfl dX6_brush_82 ?_
          refine z_imul (pc := 83) hc dX6_brush_83 ?_
          refine z_cgt (pc := 84) (tgt := 102) hc (by omega) (by decide) dX6_brush_84 (fun h84 => ?_) (fun h84 => ?_)
          · show zJW X 102 [(8, zI ((((i33 : Nat) : Int) % (M 39 1)) - c)), (7, zI ((((i33 : Nat) : Int) / (M 39 1)) - r)), (6, zI ((i33 : Nat) : Int)), (5, zI ((zrep (brR (M 39 1) r c k b) i33 (recR M, 0)).2)), (0, zR 38), (1, zI r), (2, zI c), (3, zI k), (4, zI (zbz b))] [zI ((zrep (brR (M 39 1) r c k b) i33 (recR M, 0)).2)] ((zrep (brR (M 39 1) r c k b) i33 (recR M, 0)).1)
            refine z_iconst (pc := 102) hc 0 dX6_brush_102 ?_
            refine z_iadd (pc := 103) hc dX6_brush_103 ?_
            refine z_isw (pc := 104) (lv' := [(5, zI ((zrep (brR (M 39 1) r c k b) i33 (recR M, 0)).2 + 0)), (8, zI ((((i33 : Nat) : Int) % (M 39 1)) - c)), (7, zI ((((i33 : Nat) : Int) / (M 39 1)) - r)), (6, zI ((i33 : Nat) : Int)), (0, zR 38), (1, zI r), (2, zI c), (3, zI k), (4, zI (zbz b))]) hc rfl (by decide) dX6_brush_104 ?_
            refine z_iinc (pc := 106) (lv' := [(6, zI (((i33 : Nat) : Int) + 1)), (5, zI ((zrep (brR (M 39 1) r c k b) i33 (recR M, 0)).2 + 0)), (8, zI ((((i33 : Nat) : Int) % (M 39 1)) - c)), (7, zI ((((i33 : Nat) : Int) / (M 39 1)) - r)), (0, zR 38), (1, zI r), (2, zI c), (3, zI k), (4, zI (zbz b))]) hc 3 rfl rfl (by decide) dX6_brush_106 ?_
            refine z_goto (pc := 109) (tgt := 33) hc (by decide) dX6_brush_109 ?_
            refine zJW_sub (lv' := [(6, zI (((i33 : Nat) : Int) + 1)), (5, zI ((zrep (brR (M 39 1) r c k b) i33 (recR M, 0)).2 + 0)), (0, zR 38), (1, zI r), (2, zI c), (3, zI k), (4, zI (zbz b))]) [0, 1, 4, 5, 6, 7, 8] rfl ?_
            exact zJW_eq (by rw [zrep_succ]; first | (rw [brR_no (by omega)] <;> (try dsimp only) <;> (try rw [Int.add_zero]) <;> rfl) | (rw [brR_t (by omega) h95] <;> rfl) | (rw [brR_f (by omega) h95] <;> (try dsimp only) <;> (try rw [Int.add_zero]) <;> rfl)) rfl (by rw [zrep_succ]; first | (rw [brR_no (by omega)]; done) | (rw [brR_t (by omega) h95]; done) | (rw [brR_f (by omega) h95])) ih33
          · show zJW X 87 [(8, zI ((((i33 : Nat) : Int) % (M 39 1)) - c)), (7, zI ((((i33 : Nat) : Int) / (M 39 1)) - r)), (6, zI ((i33 : Nat) : Int)), (5, zI ((zrep (brR (M 39 1) r c k b) i33 (recR M, 0)).2)), (0, zR 38), (1, zI r), (2, zI c), (3, zI k), (4, zI (zbz b))] [zI ((zrep (brR (M 39 1) r c k b) i33 (recR M, 0)).2)] ((zrep (brR (M 39 1) r c k b) i33 (recR M, 0)).1)
            refine z_ald (pc := 87) hc 4 rfl dX6_brush_87 ?_
            refine z_ilw (pc := 88) hc 2 rfl dX6_brush_88 ?_
            refine z_ilw (pc := 90) hc 8 rfl dX6_brush_90 ?_
            refine kc_X6_125 (pc := 92) hc rfl (zfitX (by decide) rfl rfl) rfl (Nat.le_of_ble_eq_true rfl) (ct_X6_becomes ((zrep (brR (M 39 1) r c k b) i33 (recR M, 0)).1) (by assumption) ((i33 : Nat) : Int) (by omega) b) dX6_brush_92 ?_
            refine z_beq (pc := 95) (tgt := 102) hc (by decide) dX6_brush_95 (fun h95 => ?_) (fun h95 => ?_)
            · show zJW X 102 [(8, zI ((((i33 : Nat) : Int) % (M 39 1)) - c)), (7, zI ((((i33 : Nat) : Int) / (M 39 1)) - r)), (6, zI ((i33 : Nat) : Int)), (5, zI ((zrep (brR (M 39 1) r c k b) i33 (recR M, 0)).2)), (0, zR 38), (1, zI r), (2, zI c), (3, zI k), (4, zI (zbz b))] [zI ((zrep (brR (M 39 1) r c k b) i33 (recR M, 0)).2)] (becR ((zrep (brR (M 39 1) r c k b) i33 (recR M, 0)).1) ((i33 : Nat) : Int) b)
              refine z_iconst (pc := 102) hc 0 dX6_brush_102 ?_
              refine z_iadd (pc := 103) hc dX6_brush_103 ?_
              refine z_isw (pc := 104) (lv' := [(5, zI ((zrep (brR (M 39 1) r c k b) i33 (recR M, 0)).2 + 0)), (8, zI ((((i33 : Nat) : Int) % (M 39 1)) - c)), (7, zI ((((i33 : Nat) : Int) / (M 39 1)) - r)), (6, zI ((i33 : Nat) : Int)), (0, zR 38), (1, zI r), (2, zI c), (3, zI k), (4, zI (zbz b))]) hc rfl (by decide) dX6_brush_104 ?_
              refine z_iinc (pc := 106) (lv' := [(6, zI (((i33 : Nat) : Int) + 1)), (5, zI ((zrep (brR (M 39 1) r c k b) i33 (recR M, 0)).2 + 0)), (8, zI ((((i33 : Nat) : Int) % (M 39 1)) - c)), (7, zI ((((i33 : Nat) : Int) / (M 39 1)) - r)), (0, zR 38), (1, zI r), (2, zI c), (3, zI k), (4, zI (zbz b))]) hc 3 rfl rfl (by decide) dX6_brush_106 ?_
              refine z_goto (pc := 109) (tgt := 33) hc (by decide) dX6_brush_109 ?_
              refine zJW_sub (lv' := [(6, zI (((i33 : Nat) : Int) + 1)), (5, zI ((zrep (brR (M 39 1) r c k b) i33 (recR M, 0)).2 + 0)), (0, zR 38), (1, zI r), (2, zI c), (3, zI k), (4, zI (zbz b))]) [0, 1, 4, 5, 6, 7, 8] rfl ?_
              exact zJW_eq (by rw [zrep_succ]; first | (rw [brR_no (by omega)] <;> (try dsimp only) <;> (try rw [Int.add_zero]) <;> rfl) | (rw [brR_t (by omega) h95] <;> rfl) | (rw [brR_f (by omega) h95] <;> (try dsimp only) <;> (try rw [Int.add_zero]) <;> rfl)) rfl (by rw [zrep_succ]; first | (rw [brR_no (by omega)]; done) | (rw [brR_t (by omega) h95]; done) | (rw [brR_f (by omega) h95])) ih33
            · show zJW X 98 [(8, zI ((((i33 : Nat) : Int) % (M 39 1)) - c)), (7, zI ((((i33 : Nat) : Int) / (M 39 1)) - r)), (6, zI ((i33 : Nat) : Int)), (5, zI ((zrep (brR (M 39 1) r c k b) i33 (recR M, 0)).2)), (0, zR 38), (1, zI r), (2, zI c), (3, zI k), (4, zI (zbz b))] [zI ((zrep (brR (M 39 1) r c k b) i33 (recR M, 0)).2)] (becR ((zrep (brR (M 39 1) r c k b) i33 (recR M, 0)).1) ((i33 : Nat) : Int) b)
              refine z_iconst (pc := 98) hc 1 dX6_brush_98 ?_
              refine z_goto (pc := 99) (tgt := 103) hc (by decide) dX6_brush_99 ?_
              refine z_iadd (pc := 103) hc dX6_brush_103 ?_
              refine z_isw (pc := 104) (lv' := [(5, zI ((zrep (brR (M 39 1) r c k b) i33 (recR M, 0)).2 + 1)), (8, zI ((((i33 : Nat) : Int) % (M 39 1)) - c)), (7, zI ((((i33 : Nat) : Int) / (M 39 1)) - r)), (6, zI ((i33 : Nat) : Int)), (0, zR 38), (1, zI r), (2, zI c), (3, zI k), (4, zI (zbz b))]) hc rfl (by decide) dX6_brush_104 ?_
              refine z_iinc (pc := 106) (lv' := [(6, zI (((i33 : Nat) : Int) + 1)), (5, zI ((zrep (brR (M 39 1) r c k b) i33 (recR M, 0)).2 + 1)), (8, zI ((((i33 : Nat) : Int) % (M 39 1)) - c)), (7, zI ((((i33 : Nat) : Int) / (M 39 1)) - r)), (0, zR 38), (1, zI r), (2, zI c), (3, zI k), (4, zI (zbz b))]) hc 3 rfl rfl (by decide) dX6_brush_106 ?_
              refine z_goto (pc := 109) (tgt := 33) hc (by decide) dX6_brush_109 ?_
              refine zJW_sub (lv' := [(6, zI (((i33 : Nat) : Int) + 1)), (5, zI ((zrep (brR (M 39 1) r c k b) i33 (recR M, 0)).2 + 1)), (0, zR 38), (1, zI r), (2, zI c), (3, zI k), (4, zI (zbz b))]) [0, 1, 4, 5, 6, 7, 8] rfl ?_
              exact zJW_eq (by rw [zrep_succ]; first | (rw [brR_no (by omega)] <;> (try dsimp only) <;> (try rw [Int.add_zero]) <;> rfl) | (rw [brR_t (by omega) h95] <;> rfl) | (rw [brR_f (by omega) h95] <;> (try dsimp only) <;> (try rw [Int.add_zero]) <;> rfl)) rfl (by rw [zrep_succ]; first | (rw [brR_no (by omega)]; done) | (rw [brR_t (by omega) h95]; done) | (rw [brR_f (by omega) h95])) ih33
    · show zJW X 20 [(0, zR 38), (1, zI r), (2, zI c), (3, zI k), (4, zI (zbz b))] [] M
      refine z_bipush (pc := 20) hc (-2) (by decide) dX6_brush_20 ?_
      exact z_iret (pc := 22) hc he rfl dX6_brush_22 (by have h17 := of_decide_eq_false h17; exact ⟨by rw [if_pos h6, if_neg (by omega)], by rw [if_neg (fun h => by omega)]⟩)
  · show zJW X 9 [(0, zR 38), (1, zI r), (2, zI c), (3, zI k), (4, zI (zbz b))] [] M
    refine z_iconst (pc := 9) hc (-1) dX6_brush_9 ?_
    exact z_iret (pc := 10) hc he rfl dX6_brush_10 (⟨by rw [h6]; rfl, by rw [if_neg (fun h => by rw [h6] at h; exact absurd h.1 (by decide))]⟩)

set_option maxRecDepth 100000 in
set_option maxHeartbeats 4000000 in
theorem ct_X6_smooth (M : Mem) (hR : RI M) (k : Int) (hb_k : -2147483648 ≤ k ∧ k < 2147483648)  : zCt yX6_smooth KX6_smooth [zR 38, zI k] M (fun zv zM => zv = some (if 1 ≤ k ∧ k ≤ 9 then (zrep (smR k) (M 39 0 * M 39 1).toNat ((smS (recR M) (M 39 0 * M 39 1)), 0)).2 else -2) ∧ zM = (if 1 ≤ k ∧ k ≤ 9 then (zrep (smR k) (M 39 0 * M 39 1).toNat ((smS (recR M) (M 39 0 * M 39 1)), 0)).1 else M)) := by
  obtain ⟨hU, hZ, hO, hH⟩ := id hR
  obtain ⟨hs1, hs2, hs3, hs4, hs5, hs6, hs7⟩ := id hZ
  have hw9 := zhw hs1 hs2 hs3 hs4
  have hR1 := recR_RI hR
  obtain ⟨hU1, hZ1, hO1, hH1⟩ := id hR1
  have e39 : recR M 39 = M 39 := recR_off (by decide) (by decide)
  have hS9 : (smS (recR M) (M 39 0 * M 39 1)) 39 = M 39 := (smS_off (by decide)).trans e39
  have hP0 : brP (smS (recR M) (M 39 0 * M 39 1)) ((smS (recR M) (M 39 0 * M 39 1)), (0 : Int)) := ⟨by show zRf ((smS (recR M) (M 39 0 * M 39 1)) 39); rw [hS9]; exact hZ, fun _ _ => rfl, rfl, rfl⟩
  have hnn : (((M 39 0 * M 39 1).toNat : Nat) : Int) = M 39 0 * M 39 1 := Int.toNat_of_nonneg (by omega)
  have hr1 : (recR M) 39 1 = M 39 1 := congrFun e39 1
  refine z_met (by decide) rfl (Nat.le_of_ble_eq_true rfl) (fun X hc he => ?_)
  show zJW X 0 [(0, zR 38), (1, zI k)] [] M
  refine z_ild (pc := 0) hc 1 rfl dX6_smooth_0 ?_
  refine z_iconst (pc := 1) hc 1 dX6_smooth_1 ?_
  refine z_bipush (pc := 2) hc 9 (by decide) dX6_smooth_2 ?_
  refine kc_X6_61 (pc := 4) hc rfl (zfit0 (by decide) rfl rfl) (Nat.le_of_ble_eq_true rfl) (ct_X6_in M k 1 9 (by omega) (by omega) (by omega)) dX6_smooth_4 ?_
  refine z_bne (pc := 7) (tgt := 13) hc (by decide) dX6_smooth_7 (fun h7 => ?_) (fun h7 => ?_)
  · show zJW X 13 [(0, zR 38), (1, zI k)] [] M
    have h7 := of_decide_eq_true h7
    refine z_ald (pc := 13) hc 0 rfl dX6_smooth_13 ?_
    refine kc_X6_77 (pc := 14) hc rfl (zfitX (by decide) rfl rfl) rfl (Nat.le_of_ble_eq_true rfl) (ct_X6_record M (by assumption) ) dX6_smooth_14 ?_
    refine z_iconst (pc := 17) hc 0 dX6_smooth_17 ?_
    refine z_ist (pc := 18) (lv' := [(2, zI 0), (0, zR 38), (1, zI k)]) hc rfl (by decide) dX6_smooth_18 ?_
    refine z_for ((M 39 0 * M 39 1).toNat) (fun i19 => [(2, zI ((i19 : Nat) : Int)), (0, zR 38), (1, zI k)]) (fun i19 => (smS (recR M) ((i19 : Nat) : Int))) (by rfl) (by exact smS_0) ?_ (fun i19 hi19 ih19 => ?_)
    · show zJW X 19 [(2, zI ((((M 39 0 * M 39 1).toNat) : Nat) : Int)), (0, zR 38), (1, zI k)] [] (smS (recR M) ((((M 39 0 * M 39 1).toNat) : Nat) : Int))
      have e9 : (smS (recR M) (((M 39 0 * M 39 1).toNat : Nat) : Int)) 39 = (recR M) 39 := smS_off (by decide)
      have e8 := e9.trans e39
      have hz9 : zRf ((smS (recR M) (((M 39 0 * M 39 1).toNat : Nat) : Int)) 39) := by rw [e9]; exact hZ1
      have hu9 : TbR (smS (recR M) (((M 39 0 * M 39 1).toNat : Nat) : Int)) := TbR_congr (smS_off (by decide)) (smS_off (by decide)) hU1
      have hp9 : (smS (recR M) (((M 39 0 * M 39 1).toNat : Nat) : Int)) 39 0 * (smS (recR M) (((M 39 0 * M 39 1).toNat : Nat) : Int)) 39 1 = M 39 0 * M 39 1 := by rw [e8]
      have hp8 : (smS (recR M) (((M 39 0 * M 39 1).toNat : Nat) : Int)) 39 1 = M 39 1 := by rw [e8]
      refine z_ild (pc := 19) hc 0 rfl dX6_smooth_19 ?_
      refine z_ald (pc := 20) hc 1 rfl dX6_smooth_20 ?_
      refine kc_X6_116 (pc := 21) hc rfl (zfitX (by decide) rfl rfl) rfl (Nat.le_of_ble_eq_true rfl) (ct_X6_tiles (smS (recR M) ((((M 39 0 * M 39 1).toNat) : Nat) : Int))) dX6_smooth_21 ?_
      refine z_cge (pc := 24) (tgt := 71) hc (by omega) (by decide) dX6_smooth_24 (fun h24 => ?_) (fun h24 => ?_)
      · show zJW X 71 [(2, zI ((((M 39 0 * M 39 1).toNat) : Nat) : Int)), (0, zR 38), (1, zI k)] [] (smS (recR M) ((((M 39 0 * M 39 1).toNat) : Nat) : Int))
        refine z_iconst (pc := 71) hc 0 dX6_smooth_71 ?_
        refine z_ist (pc := 72) (lv' := [(2, zI 0), (0, zR 38), (1, zI k)]) hc rfl (by decide) dX6_smooth_72 ?_
        refine z_iconst (pc := 73) hc 0 dX6_smooth_73 ?_
        refine z_ist (pc := 74) (lv' := [(3, zI 0), (2, zI 0), (0, zR 38), (1, zI k)]) hc rfl (by decide) dX6_smooth_74 ?_
        refine z_for ((M 39 0 * M 39 1).toNat) (fun i75 => [(3, zI ((i75 : Nat) : Int)), (2, zI ((zrep (smR k) i75 ((smS (recR M) (M 39 0 * M 39 1)), 0)).2)), (0, zR 38), (1, zI k)]) (fun i75 => (zrep (smR k) i75 ((smS (recR M) (M 39 0 * M 39 1)), 0)).1) (by rfl) (by rw [hnn]; rfl) ?_ (fun i75 hi75 ih75 => ?_)
        · show zJW X 75 [(3, zI ((((M 39 0 * M 39 1).toNat) : Nat) : Int)), (2, zI ((zrep (smR k) ((M 39 0 * M 39 1).toNat) ((smS (recR M) (M 39 0 * M 39 1)), 0)).2)), (0, zR 38), (1, zI k)] [] ((zrep (smR k) ((M 39 0 * M 39 1).toNat) ((smS (recR M) (M 39 0 * M 39 1)), 0)).1)
          have hP75 : brP (smS (recR M) (M 39 0 * M 39 1)) (zrep (smR k) (M 39 0 * M 39 1).toNat ((smS (recR M) (M 39 0 * M 39 1)), 0)) := zrep_P hP0 (N := (M 39 0 * M 39 1).toNat) (fun i hi x hx => smR_P (by omega) hx) (Nat.le_refl _)
          have e75 : (zrep (smR k) (M 39 0 * M 39 1).toNat ((smS (recR M) (M 39 0 * M 39 1)), 0)).1 39 0 = M 39 0 := hP75.2.2.1.trans (congrFun hS9 0)
          have f75 : (zrep (smR k) (M 39 0 * M 39 1).toNat ((smS (recR M) (M 39 0 * M 39 1)), 0)).1 39 1 = M 39 1 := hP75.2.2.2.trans (congrFun hS9 1)
          have g75 : (zrep (smR k) (M 39 0 * M 39 1).toNat ((smS (recR M) (M 39 0 * M 39 1)), 0)).1 39 0 * (zrep (smR k) (M 39 0 * M 39 1).toNat ((smS (recR M) (M 39 0 * M 39 1)), 0)).1 39 1 = M 39 0 * M 39 1 := by rw [e75, f75]
          have z75 := hP75.1
          refine z_ild (pc := 75) hc 0 rfl dX6_smooth_75 ?_
          refine z_ald (pc := 76) hc 2 rfl dX6_smooth_76 ?_
          refine kc_X6_116 (pc := 77) hc rfl (zfitX (by decide) rfl rfl) rfl (Nat.le_of_ble_eq_true rfl) (ct_X6_tiles ((zrep (smR k) ((M 39 0 * M 39 1).toNat) ((smS (recR M) (M 39 0 * M 39 1)), 0)).1)) dX6_smooth_77 ?_
          refine z_cge (pc := 80) (tgt := 120) hc (by omega) (by decide) dX6_smooth_80 (fun h80 => ?_) (fun h80 => ?_)
          · show zJW X 120 [(3, zI ((((M 39 0 * M 39 1).toNat) : Nat) : Int)), (2, zI ((zrep (smR k) ((M 39 0 * M 39 1).toNat) ((smS (recR M) (M 39 0 * M 39 1)), 0)).2)), (0, zR 38), (1, zI k)] [] ((zrep (smR k) ((M 39 0 * M 39 1).toNat) ((smS (recR M) (M 39 0 * M 39 1)), 0)).1)
            refine z_ild (pc := 120) hc 1 rfl dX6_smooth_120 ?_
            exact z_iret (pc := 121) hc he rfl dX6_smooth_121 (⟨by rw [if_pos (by omega)], by rw [if_pos (by omega)]⟩)
          · exfalso; omega
        · show zJW X 75 [(3, zI ((i75 : Nat) : Int)), (2, zI ((zrep (smR k) i75 ((smS (recR M) (M 39 0 * M 39 1)), 0)).2)), (0, zR 38), (1, zI k)] [] ((zrep (smR k) i75 ((smS (recR M) (M 39 0 * M 39 1)), 0)).1)
          have hP75 : brP (smS (recR M) (M 39 0 * M 39 1)) (zrep (smR k) i75 ((smS (recR M) (M 39 0 * M 39 1)), 0)) := zrep_P hP0 (N := (M 39 0 * M 39 1).toNat) (fun i hi x hx => smR_P (by omega) hx) (Nat.le_of_lt hi75)
          have e75 : (zrep (smR k) i75 ((smS (recR M) (M 39 0 * M 39 1)), 0)).1 39 0 = M 39 0 := hP75.2.2.1.trans (congrFun hS9 0)
          have f75 : (zrep (smR k) i75 ((smS (recR M) (M 39 0 * M 39 1)), 0)).1 39 1 = M 39 1 := hP75.2.2.2.trans (congrFun hS9 1)
          have g75 : (zrep (smR k) i75 ((smS (recR M) (M 39 0 * M 39 1)), 0)).1 39 0 * (zrep (smR k) i75 ((smS (recR M) (M 39 0 * M 39 1)), 0)).1 39 1 = M 39 0 * M 39 1 := by rw [e75, f75]
          have z75 := hP75.1
          have hs48 : 0 ≤ (zrep (smR k) i75 ((smS (recR M) (M 39 0 * M 39 1)), 0)).1 48 ((i75 : Nat) : Int) ∧ (zrep (smR k) i75 ((smS (recR M) (M 39 0 * M 39 1)), 0)).1 48 ((i75 : Nat) : Int) ≤ 300 := by
            have ab := arT_bd (tsZ ((recR M) 39)) (((i75 : Nat) : Int) / (recR M) 39 1) (((i75 : Nat) : Int) % (recR M) 39 1)
            have rb := rdZ_bd ab
            have h6k := hs6 ((i75 : Nat) : Int) (by omega) (by omega)
            rw [← e39] at h6k
            rw [hP75.2.1 48 (by decide)]
            rw [smS_at (by omega)]
            omega
          refine z_ild (pc := 75) hc 0 rfl dX6_smooth_75 ?_
          refine z_ald (pc := 76) hc 2 rfl dX6_smooth_76 ?_
          refine kc_X6_116 (pc := 77) hc rfl (zfitX (by decide) rfl rfl) rfl (Nat.le_of_ble_eq_true rfl) (ct_X6_tiles ((zrep (smR k) i75 ((smS (recR M) (M 39 0 * M 39 1)), 0)).1)) dX6_smooth_77 ?_
          refine z_cge (pc := 80) (tgt := 120) hc (by omega) (by decide) dX6_smooth_80 (fun h80 => ?_) (fun h80 => ?_)
          · exfalso; omega
          · show zJW X 83 [(3, zI ((i75 : Nat) : Int)), (2, zI ((zrep (smR k) i75 ((smS (recR M) (M 39 0 * M 39 1)), 0)).2)), (0, zR 38), (1, zI k)] [] ((zrep (smR k) i75 ((smS (recR M) (M 39 0 * M 39 1)), 0)).1)
            refine z_ild (pc := 83) hc 1 rfl dX6_smooth_83 ?_
            refine z_ald (pc := 84) hc 2 rfl dX6_smooth_84 ?_
            refine z_ild (pc := 85) hc 0 rfl dX6_smooth_85 ?_
            refine z_ald (pc := 86) hc 2 rfl dX6_smooth_86 ?_
            refine fg_X6_38 (pc := 87) hc rfl rfl dX6_smooth_87 ?_
            refine z_ild (pc := 90) hc 0 rfl dX6_smooth_90 ?_
            refine z_iald (pc := 91) hc rfl rfl rfl (by decide) (by omega) dX6_smooth_91 ?_
            have hJ101 : zJW X 101 [(3, zI ((i75 : Nat) : Int)), (2, zI ((zrep (smR k) i75 ((smS (recR M) (M 39 0 * M 39 1)), 0)).2)), (0, zR 38), (1, zI k)] [zI (zbz (decide (k ≤ (zrep (smR k) i75 ((smS (recR M) (M 39 0 * M 39 1)), 0)).1 48 ((i75 : Nat) : Int)))), zI ((i75 : Nat) : Int), zR 38, zI ((zrep (smR k) i75 ((smS (recR M) (M 39 0 * M 39 1)), 0)).2)] ((zrep (smR k) i75 ((smS (recR M) (M 39 0 * M 39 1)), 0)).1) := by
              refine kc_X6_125 (pc := 101) hc rfl (zfitX (by decide) rfl rfl) rfl (Nat.le_of_ble_eq_true rfl) (ct_X6_becomes ((zrep (smR k) i75 ((smS (recR M) (M 39 0 * M 39 1)), 0)).1) (by assumption) ((i75 : Nat) : Int) (by omega) (decide (k ≤ (zrep (smR k) i75 ((smS (recR M) (M 39 0 * M 39 1)), 0)).1 48 ((i75 : Nat) : Int)))) dX6_smooth_101 ?_
              refine z_beq (pc := 104) (tgt := 111) hc (by decide) dX6_smooth_104 (fun h104 => ?_) (fun h104 => ?_)
              · show zJW X 111 [(3, zI ((i75 : Nat) : Int)), (2, zI ((zrep (smR k) i75 ((smS (recR M) (M 39 0 * M 39 1)), 0)).2)), (0, zR 38), (1, zI k)] [zI ((zrep (smR k) i75 ((smS (recR M) (M 39 0 * M 39 1)), 0)).2)] (becR ((zrep (smR k) i75 ((smS (recR M) (M 39 0 * M 39 1)), 0)).1) ((i75 : Nat) : Int) (decide (k ≤ (zrep (smR k) i75 ((smS (recR M) (M 39 0 * M 39 1)), 0)).1 48 ((i75 : Nat) : Int))))
                refine z_iconst (pc := 111) hc 0 dX6_smooth_111 ?_
                refine z_iadd (pc := 112) hc dX6_smooth_112 ?_
                refine z_ist (pc := 113) (lv' := [(2, zI ((zrep (smR k) i75 ((smS (recR M) (M 39 0 * M 39 1)), 0)).2 + 0)), (3, zI ((i75 : Nat) : Int)), (0, zR 38), (1, zI k)]) hc rfl (by decide) dX6_smooth_113 ?_
                refine z_iinc (pc := 114) (lv' := [(3, zI (((i75 : Nat) : Int) + 1)), (2, zI ((zrep (smR k) i75 ((smS (recR M) (M 39 0 * M 39 1)), 0)).2 + 0)), (0, zR 38), (1, zI k)]) hc 1 rfl rfl (by decide) dX6_smooth_114 ?_
                refine z_goto (pc := 117) (tgt := 75) hc (by decide) dX6_smooth_117 ?_
                exact zJW_eq (by rw [zrep_succ]; first | (rw [smR_t h104] <;> rfl) | (rw [smR_f h104] <;> (try dsimp only) <;> (try rw [Int.add_zero]) <;> rfl)) rfl (by rw [zrep_succ]; first | (rw [smR_t h104]; done) | (rw [smR_f h104])) ih75
              · show zJW X 107 [(3, zI ((i75 : Nat) : Int)), (2, zI ((zrep (smR k) i75 ((smS (recR M) (M 39 0 * M 39 1)), 0)).2)), (0, zR 38), (1, zI k)] [zI ((zrep (smR k) i75 ((smS (recR M) (M 39 0 * M 39 1)), 0)).2)] (becR ((zrep (smR k) i75 ((smS (recR M) (M 39 0 * M 39 1)), 0)).1) ((i75 : Nat) : Int) (decide (k ≤ (zrep (smR k) i75 ((smS (recR M) (M 39 0 * M 39 1)), 0)).1 48 ((i75 : Nat) : Int))))
                refine z_iconst (pc := 107) hc 1 dX6_smooth_107 ?_
                refine z_goto (pc := 108) (tgt := 112) hc (by decide) dX6_smooth_108 ?_
                refine z_iadd (pc := 112) hc dX6_smooth_112 ?_
                refine z_ist (pc := 113) (lv' := [(2, zI ((zrep (smR k) i75 ((smS (recR M) (M 39 0 * M 39 1)), 0)).2 + 1)), (3, zI ((i75 : Nat) : Int)), (0, zR 38), (1, zI k)]) hc rfl (by decide) dX6_smooth_113 ?_
                refine z_iinc (pc := 114) (lv' := [(3, zI (((i75 : Nat) : Int) + 1)), (2, zI ((zrep (smR k) i75 ((smS (recR M) (M 39 0 * M 39 1)), 0)).2 + 1)), (0, zR 38), (1, zI k)]) hc 1 rfl rfl (by decide) dX6_smooth_114 ?_
                refine z_goto (pc := 117) (tgt := 75) hc (by decide) dX6_smooth_117 ?_
                exact zJW_eq (by rw [zrep_succ]; first | (rw [smR_t h104] <;> rfl) | (rw [smR_f h104] <;> (try dsimp only) <;> (try rw [Int.add_zero]) <;> rfl)) rfl (by rw [zrep_succ]; first | (rw [smR_t h104]; done) | (rw [smR_f h104])) ih75
            refine z_ild (pc := 92) hc 3 rfl dX6_smooth_92 ?_
            refine z_clt (pc := 93) (tgt := 100) hc (by omega) (by decide) dX6_smooth_93 (fun h93 => ?_) (fun h93 => ?_)
            · show zJW X 100 [(3, zI ((i75 : Nat) : Int)), (2, zI ((zrep (smR k) i75 ((smS (recR M) (M 39 0 * M 39 1)), 0)).2)), (0, zR 38), (1, zI k)] [zI ((i75 : Nat) : Int), zR 38, zI ((zrep (smR k) i75 ((smS (recR M) (M 39 0 * M 39 1)), 0)).2)] ((zrep (smR k) i75 ((smS (recR M) (M 39 0 * M 39 1)), 0)).1)
              refine z_iconst (pc := 100) hc 0 dX6_smooth_100 ?_
              exact zJW_eq (by rfl) (by first | rw [decide_eq_true (by omega)] <;> rfl | rw [decide_eq_false (by omega)] <;> rfl) (by rfl) hJ101
            · show zJW X 96 [(3, zI ((i75 : Nat) : Int)), (2, zI ((zrep (smR k) i75 ((smS (recR M) (M 39 0 * M 39 1)), 0)).2)), (0, zR 38), (1, zI k)] [zI ((i75 : Nat) : Int), zR 38, zI ((zrep (smR k) i75 ((smS (recR M) (M 39 0 * M 39 1)), 0)).2)] ((zrep (smR k) i75 ((smS (recR M) (M 39 0 * M 39 1)), 0)).1)
              refine z_iconst (pc := 96) hc 1 dX6_smooth_96 ?_
              refine z_goto (pc := 97) (tgt := 101) hc (by decide) dX6_smooth_97 ?_
              exact zJW_eq (by rfl) (by first | rw [decide_eq_true (by omega)] <;> rfl | rw [decide_eq_false (by omega)] <;> rfl) (by rfl) hJ101
      · exfalso; omega
    · show zJW X 19 [(2, zI ((i19 : Nat) : Int)), (0, zR 38), (1, zI k)] [] (smS (recR M) ((i19 : Nat) : Int))
      have e9 : (smS (recR M) ((i19 : Nat) : Int)) 39 = (recR M) 39 := smS_off (by decide)
      have e8 := e9.trans e39
      have hz9 : zRf ((smS (recR M) ((i19 : Nat) : Int)) 39) := by rw [e9]; exact hZ1
      have hu9 : TbR (smS (recR M) ((i19 : Nat) : Int)) := TbR_congr (smS_off (by decide)) (smS_off (by decide)) hU1
      have hp9 : (smS (recR M) ((i19 : Nat) : Int)) 39 0 * (smS (recR M) ((i19 : Nat) : Int)) 39 1 = M 39 0 * M 39 1 := by rw [e8]
      have hp8 : (smS (recR M) ((i19 : Nat) : Int)) 39 1 = M 39 1 := by rw [e8]
      refine z_ild (pc := 19) hc 0 rfl dX6_smooth_19 ?_
      refine z_ald (pc := 20) hc 1 rfl dX6_smooth_20 ?_
      refine kc_X6_116 (pc := 21) hc rfl (zfitX (by decide) rfl rfl) rfl (Nat.le_of_ble_eq_true rfl) (ct_X6_tiles (smS (recR M) ((i19 : Nat) : Int))) dX6_smooth_21 ?_
      refine z_cge (pc := 24) (tgt := 71) hc (by omega) (by decide) dX6_smooth_24 (fun h24 => ?_) (fun h24 => ?_)
      · exfalso; omega
      · show zJW X 27 [(2, zI ((i19 : Nat) : Int)), (0, zR 38), (1, zI k)] [] (smS (recR M) ((i19 : Nat) : Int))
        refine z_ald (pc := 27) hc 1 rfl dX6_smooth_27 ?_
        refine fg_X6_38 (pc := 28) hc rfl rfl dX6_smooth_28 ?_
        refine z_ild (pc := 31) hc 0 rfl dX6_smooth_31 ?_
        refine z_ald (pc := 32) hc 1 rfl dX6_smooth_32 ?_
        refine z_ild (pc := 33) hc 0 rfl dX6_smooth_33 ?_
        refine z_ald (pc := 34) hc 1 rfl dX6_smooth_34 ?_
        refine fg_X6_7 (pc := 35) hc rfl rfl dX6_smooth_35 ?_
        refine z_iconst (pc := 38) hc 1 dX6_smooth_38 ?_
        refine z_iald (pc := 39) hc rfl rfl rfl (by decide) (by omega) dX6_smooth_39 ?_
        rw [e9]
        refine z_idiv (pc := 40) hc (by omega) dX6_smooth_40 ?_
        refine z_ild (pc := 41) hc 0 rfl dX6_smooth_41 ?_
        refine z_ald (pc := 42) hc 1 rfl dX6_smooth_42 ?_
        refine fg_X6_7 (pc := 43) hc rfl rfl dX6_smooth_43 ?_
        refine z_iconst (pc := 46) hc 1 dX6_smooth_46 ?_
        refine z_iald (pc := 47) hc rfl rfl rfl (by decide) (by omega) dX6_smooth_47 ?_
        rw [e9]
        refine z_irem (pc := 48) hc (by omega) dX6_smooth_48 ?_
        have kx := zkx (w := M 39 1) (h := M 39 0) (k := ((i19 : Nat) : Int)) (by omega) (by omega)
        rw [← hr1] at kx
        refine kc_X6_104 (pc := 49) hc rfl (zfitX (by decide) rfl rfl) rfl (Nat.le_of_ble_eq_true rfl) (ct_X6_around (smS (recR M) ((i19 : Nat) : Int)) (by assumption) (((i19 : Nat) : Int) / ((recR M) 39 1)) (by omega) (((i19 : Nat) : Int) % ((recR M) 39 1)) (by omega)) dX6_smooth_49 ?_
        rw [e9]
        have ab := arT_bd (tsZ ((recR M) 39)) (((i19 : Nat) : Int) / (recR M) 39 1) (((i19 : Nat) : Int) % (recR M) 39 1)
        have rb := rdZ_bd ab
        have h6k := hs6 ((i19 : Nat) : Int) (by omega) (by omega)
        rw [← e39] at h6k
        refine kc_X6_113 (pc := 52) hc rfl (zfit0 (by decide) rfl rfl) (Nat.le_of_ble_eq_true rfl) (ct_X6_bits (smS (recR M) ((i19 : Nat) : Int)) (arT (tsZ ((recR M) 39)) (((i19 : Nat) : Int) / (recR M) 39 1) (((i19 : Nat) : Int) % (recR M) 39 1))) dX6_smooth_52 ?_
        refine z_ald (pc := 55) hc 1 rfl dX6_smooth_55 ?_
        refine fg_X6_7 (pc := 56) hc rfl rfl dX6_smooth_56 ?_
        refine z_iconst (pc := 59) hc 3 dX6_smooth_59 ?_
        refine z_ild (pc := 60) hc 0 rfl dX6_smooth_60 ?_
        refine z_iadd (pc := 61) hc dX6_smooth_61 ?_
        refine z_iald (pc := 62) hc rfl rfl rfl (by decide) (by omega) dX6_smooth_62 ?_
        rw [e9]
        refine z_iadd (pc := 63) hc dX6_smooth_63 ?_
        refine z_iast (pc := 64) hc rfl rfl rfl (by decide) (by omega) dX6_smooth_64 ?_
        refine z_iinc (pc := 65) (lv' := [(2, zI (((i19 : Nat) : Int) + 1)), (0, zR 38), (1, zI k)]) hc 0 rfl rfl (by decide) dX6_smooth_65 ?_
        refine z_goto (pc := 68) (tgt := 19) hc (by decide) dX6_smooth_68 ?_
        exact zJW_eq (by rfl) rfl (by exact smS_s i19) ih19
  · show zJW X 10 [(0, zR 38), (1, zI k)] [] M
    refine z_bipush (pc := 10) hc (-2) (by decide) dX6_smooth_10 ?_
    exact z_iret (pc := 12) hc he rfl dX6_smooth_12 (by have h7 := of_decide_eq_false h7; exact ⟨by rw [if_neg (by omega)], by rw [if_neg (by omega)]⟩)

set_option maxRecDepth 100000 in
set_option maxHeartbeats 4000000 in
theorem ct_X6_turnOnce (M : Mem) (hZ : zRf (M 39)) (hU : TbR M) : zCt yX6_turnOnce KX6_turnOnce [zR 38] M (fun zv zM => zv = none ∧ zM = trM M) := by
  obtain ⟨hs1, hs2, hs3, hs4, hs5, hs6, hs7⟩ := id hZ
  have hw9 := zhw hs1 hs2 hs3 hs4
  refine z_met (by decide) rfl (Nat.le_of_ble_eq_true rfl) (fun X hc he => ?_)
  show zJW X 0 [(0, zR 38)] [] M
  refine z_ald (pc := 0) hc 0 rfl dX6_turnOnce_0 ?_
  refine fg_X6_7 (pc := 1) hc rfl rfl dX6_turnOnce_1 ?_
  refine z_iconst (pc := 4) hc 0 dX6_turnOnce_4 ?_
  refine z_iald (pc := 5) hc rfl rfl rfl (by decide) (by omega) dX6_turnOnce_5 ?_
  refine z_ist (pc := 6) (lv' := [(1, zI (M 39 0)), (0, zR 38)]) hc rfl (by decide) dX6_turnOnce_6 ?_
  refine z_ald (pc := 7) hc 1 rfl dX6_turnOnce_7 ?_
  refine fg_X6_7 (pc := 8) hc rfl rfl dX6_turnOnce_8 ?_
  refine z_iconst (pc := 11) hc 1 dX6_turnOnce_11 ?_
  refine z_iald (pc := 12) hc rfl rfl rfl (by decide) (by omega) dX6_turnOnce_12 ?_
  refine z_ist (pc := 13) (lv' := [(2, zI (M 39 1)), (1, zI (M 39 0)), (0, zR 38)]) hc rfl (by decide) dX6_turnOnce_13 ?_
  refine z_iconst (pc := 14) hc 0 dX6_turnOnce_14 ?_
  refine z_ist (pc := 15) (lv' := [(3, zI 0), (2, zI (M 39 1)), (1, zI (M 39 0)), (0, zR 38)]) hc rfl (by decide) dX6_turnOnce_15 ?_
  refine z_for ((M 39 0 * M 39 1).toNat) (fun i16 => [(3, zI ((i16 : Nat) : Int)), (2, zI (M 39 1)), (1, zI (M 39 0)), (0, zR 38)]) (fun i16 => (zrep (toS M) i16 M)) (by rfl) (by rfl) ?_ (fun i16 hi16 ih16 => ?_)
  · show zJW X 16 [(3, zI ((((M 39 0 * M 39 1).toNat) : Nat) : Int)), (2, zI (M 39 1)), (1, zI (M 39 0)), (0, zR 38)] [] (zrep (toS M) ((M 39 0 * M 39 1).toNat) M)
    refine z_ild (pc := 16) hc 0 rfl dX6_turnOnce_16 ?_
    refine z_ild (pc := 17) hc 2 rfl dX6_turnOnce_17 ?_
    refine z_ild (pc := 18) hc 1 rfl dX6_turnOnce_18 ?_
    refine z_imul (pc := 19) hc dX6_turnOnce_19 ?_
    refine z_cge (pc := 20) (tgt := 101) hc (by omega) (by decide) dX6_turnOnce_20 (fun h20 => ?_) (fun h20 => ?_)
    · show zJW X 101 [(3, zI ((((M 39 0 * M 39 1).toNat) : Nat) : Int)), (2, zI (M 39 1)), (1, zI (M 39 0)), (0, zR 38)] [] (zrep (toS M) ((M 39 0 * M 39 1).toNat) M)
      refine z_ald (pc := 101) hc 3 rfl dX6_turnOnce_101 ?_
      refine fg_X6_7 (pc := 102) hc rfl rfl dX6_turnOnce_102 ?_
      refine z_iconst (pc := 105) hc 0 dX6_turnOnce_105 ?_
      refine z_ild (pc := 106) hc 1 rfl dX6_turnOnce_106 ?_
      refine z_iast (pc := 107) hc rfl rfl rfl (by decide) (by omega) dX6_turnOnce_107 ?_
      refine z_ald (pc := 108) hc 3 rfl dX6_turnOnce_108 ?_
      refine fg_X6_7 (pc := 109) hc rfl rfl dX6_turnOnce_109 ?_
      refine z_iconst (pc := 112) hc 1 dX6_turnOnce_112 ?_
      refine z_ild (pc := 113) hc 2 rfl dX6_turnOnce_113 ?_
      refine z_iast (pc := 114) hc rfl rfl rfl (by decide) (by omega) dX6_turnOnce_114 ?_
      refine z_iconst (pc := 115) hc 0 dX6_turnOnce_115 ?_
      refine z_ist (pc := 116) (lv' := [(3, zI 0), (2, zI (M 39 1)), (1, zI (M 39 0)), (0, zR 38)]) hc rfl (by decide) dX6_turnOnce_116 ?_
      refine z_for ((M 39 0 * M 39 1).toNat) (fun i117 => [(3, zI ((i117 : Nat) : Int)), (2, zI (M 39 1)), (1, zI (M 39 0)), (0, zR 38)]) (fun i117 => (zrep (cpS (zrep (toS M) (M 39 0 * M 39 1).toNat M)) i117 (zup (zup (zrep (toS M) (M 39 0 * M 39 1).toNat M) 39 0 (M 39 1)) 39 1 (M 39 0)))) (by rfl) (by rfl) ?_ (fun i117 hi117 ih117 => ?_)
      · show zJW X 117 [(3, zI ((((M 39 0 * M 39 1).toNat) : Nat) : Int)), (2, zI (M 39 1)), (1, zI (M 39 0)), (0, zR 38)] [] (zrep (cpS (zrep (toS M) (M 39 0 * M 39 1).toNat M)) ((M 39 0 * M 39 1).toNat) (zup (zup (zrep (toS M) (M 39 0 * M 39 1).toNat M) 39 0 (M 39 1)) 39 1 (M 39 0)))
        refine z_ild (pc := 117) hc 0 rfl dX6_turnOnce_117 ?_
        refine z_ild (pc := 118) hc 2 rfl dX6_turnOnce_118 ?_
        refine z_ild (pc := 119) hc 1 rfl dX6_turnOnce_119 ?_
        refine z_imul (pc := 120) hc dX6_turnOnce_120 ?_
        refine z_cge (pc := 121) (tgt := 160) hc (by omega) (by decide) dX6_turnOnce_121 (fun h121 => ?_) (fun h121 => ?_)
        · show zJW X 160 [(3, zI ((((M 39 0 * M 39 1).toNat) : Nat) : Int)), (2, zI (M 39 1)), (1, zI (M 39 0)), (0, zR 38)] [] (zrep (cpS (zrep (toS M) (M 39 0 * M 39 1).toNat M)) ((M 39 0 * M 39 1).toNat) (zup (zup (zrep (toS M) (M 39 0 * M 39 1).toNat M) 39 0 (M 39 1)) 39 1 (M 39 0)))
          exact z_vret (pc := 160) hc he rfl dX6_turnOnce_160 (⟨rfl, rfl⟩)
        · exfalso; omega
      · show zJW X 117 [(3, zI ((i117 : Nat) : Int)), (2, zI (M 39 1)), (1, zI (M 39 0)), (0, zR 38)] [] (zrep (cpS (zrep (toS M) (M 39 0 * M 39 1).toNat M)) i117 (zup (zup (zrep (toS M) (M 39 0 * M 39 1).toNat M) 39 0 (M 39 1)) 39 1 (M 39 0)))
        have e5 : (zrep (cpS (zrep (toS M) (M 39 0 * M 39 1).toNat M)) i117 (zup (zup (zrep (toS M) (M 39 0 * M 39 1).toNat M) 39 0 (M 39 1)) 39 1 (M 39 0))) 49 = (zrep (toS M) (M 39 0 * M 39 1).toNat M) 49 := by rw [cpS_off _ _ _ (by decide), zup_ne (by decide), zup_ne (by decide)]
        have e6 : (zrep (cpS (zrep (toS M) (M 39 0 * M 39 1).toNat M)) i117 (zup (zup (zrep (toS M) (M 39 0 * M 39 1).toNat M) 39 0 (M 39 1)) 39 1 (M 39 0))) 50 = (zrep (toS M) (M 39 0 * M 39 1).toNat M) 50 := by rw [cpS_off _ _ _ (by decide), zup_ne (by decide), zup_ne (by decide)]
        have e7 : (zup (zrep (cpS (zrep (toS M) (M 39 0 * M 39 1).toNat M)) i117 (zup (zup (zrep (toS M) (M 39 0 * M 39 1).toNat M) 39 0 (M 39 1)) 39 1 (M 39 0))) 39 (3 + ((i117 : Nat) : Int)) ((zrep (toS M) (M 39 0 * M 39 1).toNat M) 49 ((i117 : Nat) : Int))) 50 = (zrep (toS M) (M 39 0 * M 39 1).toNat M) 50 := (zup_ne (by decide)).trans e6
        refine z_ild (pc := 117) hc 0 rfl dX6_turnOnce_117 ?_
        refine z_ild (pc := 118) hc 2 rfl dX6_turnOnce_118 ?_
        refine z_ild (pc := 119) hc 1 rfl dX6_turnOnce_119 ?_
        refine z_imul (pc := 120) hc dX6_turnOnce_120 ?_
        refine z_cge (pc := 121) (tgt := 160) hc (by omega) (by decide) dX6_turnOnce_121 (fun h121 => ?_) (fun h121 => ?_)
        · exfalso; omega
        · show zJW X 124 [(3, zI ((i117 : Nat) : Int)), (2, zI (M 39 1)), (1, zI (M 39 0)), (0, zR 38)] [] (zrep (cpS (zrep (toS M) (M 39 0 * M 39 1).toNat M)) i117 (zup (zup (zrep (toS M) (M 39 0 * M 39 1).toNat M) 39 0 (M 39 1)) 39 1 (M 39 0)))
          refine z_ald (pc := 124) hc 3 rfl dX6_turnOnce_124 ?_
          refine fg_X6_7 (pc := 125) hc rfl rfl dX6_turnOnce_125 ?_
          refine z_iconst (pc := 128) hc 3 dX6_turnOnce_128 ?_
          refine z_ild (pc := 129) hc 0 rfl dX6_turnOnce_129 ?_
          refine z_iadd (pc := 130) hc dX6_turnOnce_130 ?_
          refine z_ald (pc := 131) hc 3 rfl dX6_turnOnce_131 ?_
          refine fg_X6_41 (pc := 132) hc rfl rfl dX6_turnOnce_132 ?_
          refine z_ild (pc := 135) hc 0 rfl dX6_turnOnce_135 ?_
          refine z_iald (pc := 136) hc rfl rfl rfl (by decide) (by omega) dX6_turnOnce_136 ?_
          refine z_iast (pc := 137) hc rfl rfl rfl (by decide) (by omega) dX6_turnOnce_137 ?_
          refine z_ald (pc := 138) hc 3 rfl dX6_turnOnce_138 ?_
          refine fg_X6_7 (pc := 139) hc rfl rfl dX6_turnOnce_139 ?_
          refine z_sipush (pc := 142) hc 147 (by decide) dX6_turnOnce_142 ?_
          refine z_ild (pc := 145) hc 0 rfl dX6_turnOnce_145 ?_
          refine z_iadd (pc := 146) hc dX6_turnOnce_146 ?_
          refine z_ald (pc := 147) hc 3 rfl dX6_turnOnce_147 ?_
          refine fg_X6_44 (pc := 148) hc rfl rfl dX6_turnOnce_148 ?_
          refine z_ild (pc := 151) hc 0 rfl dX6_turnOnce_151 ?_
          refine z_iald (pc := 152) hc rfl rfl rfl (by decide) (by omega) dX6_turnOnce_152 ?_
          refine z_iast (pc := 153) hc rfl rfl rfl (by decide) (by omega) dX6_turnOnce_153 ?_
          refine z_iinc (pc := 154) (lv' := [(3, zI (((i117 : Nat) : Int) + 1)), (2, zI (M 39 1)), (1, zI (M 39 0)), (0, zR 38)]) hc 0 rfl rfl (by decide) dX6_turnOnce_154 ?_
          refine z_goto (pc := 157) (tgt := 117) hc (by decide) dX6_turnOnce_157 ?_
          exact zJW_eq (by rfl) rfl (by rw [e5, e7]; rfl) ih117
    · exfalso; omega
  · show zJW X 16 [(3, zI ((i16 : Nat) : Int)), (2, zI (M 39 1)), (1, zI (M 39 0)), (0, zR 38)] [] (zrep (toS M) i16 M)
    have e9 : (zrep (toS M) i16 M) 39 = M 39 := toS_off _ _ _ (by decide) (by decide)
    refine z_ild (pc := 16) hc 0 rfl dX6_turnOnce_16 ?_
    refine z_ild (pc := 17) hc 2 rfl dX6_turnOnce_17 ?_
    refine z_ild (pc := 18) hc 1 rfl dX6_turnOnce_18 ?_
    refine z_imul (pc := 19) hc dX6_turnOnce_19 ?_
    refine z_cge (pc := 20) (tgt := 101) hc (by omega) (by decide) dX6_turnOnce_20 (fun h20 => ?_) (fun h20 => ?_)
    · exfalso; omega
    · show zJW X 23 [(3, zI ((i16 : Nat) : Int)), (2, zI (M 39 1)), (1, zI (M 39 0)), (0, zR 38)] [] (zrep (toS M) i16 M)
      refine z_ild (pc := 23) hc 2 rfl dX6_turnOnce_23 ?_
      refine z_ild (pc := 24) hc 0 rfl dX6_turnOnce_24 ?_
      refine z_ild (pc := 25) hc 1 rfl dX6_turnOnce_25 ?_
      refine z_irem (pc := 26) hc (by omega) dX6_turnOnce_26 ?_
      refine z_imul (pc := 27) hc dX6_turnOnce_27 ?_
      refine z_ild (pc := 28) hc 2 rfl dX6_turnOnce_28 ?_
      refine z_iadd (pc := 29) hc dX6_turnOnce_29 ?_
      refine z_iconst (pc := 30) hc 1 dX6_turnOnce_30 ?_
      refine z_isub (pc := 31) hc dX6_turnOnce_31 ?_
      refine z_ild (pc := 32) hc 0 rfl dX6_turnOnce_32 ?_
      refine z_ild (pc := 33) hc 1 rfl dX6_turnOnce_33 ?_
      refine z_idiv (pc := 34) hc (by omega) dX6_turnOnce_34 ?_
      refine z_isub (pc := 35) hc dX6_turnOnce_35 ?_
      have tp := toP_bd (h := M 39 0) (w := M 39 1) (i := ((i16 : Nat) : Int)) (by omega) (by omega) (by omega)
      have h7k := hs7 ((i16 : Nat) : Int) (by omega) (by omega)
      have td := fun (h : M 39 (147 + ((i16 : Nat) : Int)) ≠ -6) => tuZ_ok (s := M 39 (147 + ((i16 : Nat) : Int))) (by omega)
      rw [show (_ : Int) - ((i16 : Nat) : Int) / M 39 1 = (toP (M 39 0) (M 39 1) ((i16 : Nat) : Int)) from rfl]
      refine z_isw (pc := 36) (lv' := [(4, zI (toP (M 39 0) (M 39 1) ((i16 : Nat) : Int))), (3, zI ((i16 : Nat) : Int)), (2, zI (M 39 1)), (1, zI (M 39 0)), (0, zR 38)]) hc rfl (by decide) dX6_turnOnce_36 ?_
      refine z_ald (pc := 38) hc 4 rfl dX6_turnOnce_38 ?_
      refine fg_X6_41 (pc := 39) hc rfl rfl dX6_turnOnce_39 ?_
      refine z_ilw (pc := 42) hc 0 rfl dX6_turnOnce_42 ?_
      refine z_ald (pc := 44) hc 4 rfl dX6_turnOnce_44 ?_
      refine fg_X6_7 (pc := 45) hc rfl rfl dX6_turnOnce_45 ?_
      refine z_iconst (pc := 48) hc 3 dX6_turnOnce_48 ?_
      refine z_ild (pc := 49) hc 1 rfl dX6_turnOnce_49 ?_
      refine z_iadd (pc := 50) hc dX6_turnOnce_50 ?_
      refine z_iald (pc := 51) hc rfl rfl rfl (by decide) (by omega) dX6_turnOnce_51 ?_
      rw [e9]
      have hu9 : TbR _ := TbR_congr (M := M) (M' := zup (zrep (toS M) i16 M) 49 (toP (M 39 0) (M 39 1) ((i16 : Nat) : Int)) (M 39 (3 + ((i16 : Nat) : Int)))) ((zup_ne (by decide)).trans (toS_off _ _ _ (by decide) (by decide))) ((zup_ne (by decide)).trans (toS_off _ _ _ (by decide) (by decide))) hU
      have e8 : (zup (zrep (toS M) i16 M) 49 (toP (M 39 0) (M 39 1) ((i16 : Nat) : Int)) (M 39 (3 + ((i16 : Nat) : Int)))) 39 = M 39 := (zup_ne (by decide)).trans e9
      refine z_iast (pc := 52) hc rfl rfl rfl (by decide) (by omega) dX6_turnOnce_52 ?_
      refine z_ald (pc := 53) hc 4 rfl dX6_turnOnce_53 ?_
      refine fg_X6_44 (pc := 54) hc rfl rfl dX6_turnOnce_54 ?_
      refine z_ilw (pc := 57) hc 0 rfl dX6_turnOnce_57 ?_
      refine z_ald (pc := 59) hc 4 rfl dX6_turnOnce_59 ?_
      refine fg_X6_7 (pc := 60) hc rfl rfl dX6_turnOnce_60 ?_
      refine z_sipush (pc := 63) hc 147 (by decide) dX6_turnOnce_63 ?_
      refine z_ild (pc := 66) hc 1 rfl dX6_turnOnce_66 ?_
      refine z_iadd (pc := 67) hc dX6_turnOnce_67 ?_
      refine z_iald (pc := 68) hc rfl rfl rfl (by decide) (by omega) dX6_turnOnce_68 ?_
      rw [e8]
      refine z_bipush (pc := 69) hc (-6) (by decide) dX6_turnOnce_69 ?_
      have hJ94 : zJW X 94 [(4, zI (toP (M 39 0) (M 39 1) ((i16 : Nat) : Int))), (3, zI ((i16 : Nat) : Int)), (2, zI (M 39 1)), (1, zI (M 39 0)), (0, zR 38)] [zI (if M 39 (147 + ((i16 : Nat) : Int)) = -6 then -6 else tuZ (M 39 (147 + ((i16 : Nat) : Int))) 1), zI (toP (M 39 0) (M 39 1) ((i16 : Nat) : Int)), zR 50] (zup (zrep (toS M) i16 M) 49 (toP (M 39 0) (M 39 1) ((i16 : Nat) : Int)) (M 39 (3 + ((i16 : Nat) : Int)))) := by
        refine z_iast (pc := 94) hc rfl rfl rfl (by decide) (by omega) dX6_turnOnce_94 ?_
        refine z_iinc (pc := 95) (lv' := [(3, zI (((i16 : Nat) : Int) + 1)), (4, zI (toP (M 39 0) (M 39 1) ((i16 : Nat) : Int))), (2, zI (M 39 1)), (1, zI (M 39 0)), (0, zR 38)]) hc 1 rfl rfl (by decide) dX6_turnOnce_95 ?_
        refine z_goto (pc := 98) (tgt := 16) hc (by decide) dX6_turnOnce_98 ?_
        refine zJW_sub (lv' := [(3, zI (((i16 : Nat) : Int) + 1)), (2, zI (M 39 1)), (1, zI (M 39 0)), (0, zR 38)]) [0, 2, 3, 4] rfl ?_
        exact zJW_eq (by rfl) rfl (by rfl) ih16
      refine z_cne (pc := 71) (tgt := 79) hc (by omega) (by decide) dX6_turnOnce_71 (fun h71 => ?_) (fun h71 => ?_)
      · show zJW X 79 [(4, zI (toP (M 39 0) (M 39 1) ((i16 : Nat) : Int))), (3, zI ((i16 : Nat) : Int)), (2, zI (M 39 1)), (1, zI (M 39 0)), (0, zR 38)] [zI (toP (M 39 0) (M 39 1) ((i16 : Nat) : Int)), zR 50] (zup (zrep (toS M) i16 M) 49 (toP (M 39 0) (M 39 1) ((i16 : Nat) : Int)) (M 39 (3 + ((i16 : Nat) : Int))))
        refine z_ald (pc := 79) hc 4 rfl dX6_turnOnce_79 ?_
        refine z_ald (pc := 80) hc 4 rfl dX6_turnOnce_80 ?_
        refine fg_X6_7 (pc := 81) hc rfl rfl dX6_turnOnce_81 ?_
        refine z_sipush (pc := 84) hc 147 (by decide) dX6_turnOnce_84 ?_
        refine z_ild (pc := 87) hc 1 rfl dX6_turnOnce_87 ?_
        refine z_iadd (pc := 88) hc dX6_turnOnce_88 ?_
        refine z_iald (pc := 89) hc rfl rfl rfl (by decide) (by omega) dX6_turnOnce_89 ?_
        rw [e8]
        refine z_iconst (pc := 90) hc 1 dX6_turnOnce_90 ?_
        refine kc_X6_136 (pc := 91) hc rfl (zfitX (by decide) rfl rfl) rfl (Nat.le_of_ble_eq_true rfl) (ct_X6_turnedBy (zup (zrep (toS M) i16 M) 49 (toP (M 39 0) (M 39 1) ((i16 : Nat) : Int)) (M 39 (3 + ((i16 : Nat) : Int)))) (by assumption) (M 39 (147 + ((i16 : Nat) : Int))) 1 (by omega) (by omega)) dX6_turnOnce_91 ?_
        exact zJW_eq (by rfl) (by first | (rw [if_pos (by omega)]) | (rw [if_neg (by omega)])) (by rfl) hJ94
      · show zJW X 74 [(4, zI (toP (M 39 0) (M 39 1) ((i16 : Nat) : Int))), (3, zI ((i16 : Nat) : Int)), (2, zI (M 39 1)), (1, zI (M 39 0)), (0, zR 38)] [zI (toP (M 39 0) (M 39 1) ((i16 : Nat) : Int)), zR 50] (zup (zrep (toS M) i16 M) 49 (toP (M 39 0) (M 39 1) ((i16 : Nat) : Int)) (M 39 (3 + ((i16 : Nat) : Int))))
        refine z_bipush (pc := 74) hc (-6) (by decide) dX6_turnOnce_74 ?_
        refine z_goto (pc := 76) (tgt := 94) hc (by decide) dX6_turnOnce_76 ?_
        exact zJW_eq (by rfl) (by first | (rw [if_pos (by omega)]) | (rw [if_neg (by omega)])) (by rfl) hJ94

set_option maxRecDepth 100000 in
set_option maxHeartbeats 4000000 in
theorem ct_X6_turn (M : Mem) (hR : RI M) (k : Int) (hb_k : -2147483648 ≤ k ∧ k < 2147483648)  : zCt yX6_turn KX6_turn [zR 38, zI k] M (fun zv zM => zv = some (if 1 ≤ k ∧ k ≤ 3 then (zrep (fun _ => trM) k.toNat (recR M)) 39 0 else -2) ∧ zM = (if 1 ≤ k ∧ k ≤ 3 then (zrep (fun _ => trM) k.toNat (recR M)) else M)) := by
  obtain ⟨hU, hZ, hO, hH⟩ := id hR
  obtain ⟨hs1, hs2, hs3, hs4, hs5, hs6, hs7⟩ := id hZ
  have hw9 := zhw hs1 hs2 hs3 hs4
  have hR1 := recR_RI hR
  obtain ⟨hU1, hZ1, hO1, hH1⟩ := id hR1
  have e39 : recR M 39 = M 39 := recR_off (by decide) (by decide)
  refine z_met (by decide) rfl (Nat.le_of_ble_eq_true rfl) (fun X hc he => ?_)
  show zJW X 0 [(0, zR 38), (1, zI k)] [] M
  refine z_ild (pc := 0) hc 1 rfl dX6_turn_0 ?_
  refine z_iconst (pc := 1) hc 1 dX6_turn_1 ?_
  refine z_iconst (pc := 2) hc 3 dX6_turn_2 ?_
  refine kc_X6_61 (pc := 3) hc rfl (zfit0 (by decide) rfl rfl) (Nat.le_of_ble_eq_true rfl) (ct_X6_in M k 1 3 (by omega) (by omega) (by omega)) dX6_turn_3 ?_
  refine z_bne (pc := 6) (tgt := 12) hc (by decide) dX6_turn_6 (fun h6 => ?_) (fun h6 => ?_)
  · show zJW X 12 [(0, zR 38), (1, zI k)] [] M
    have h6 := of_decide_eq_true h6
    refine z_ald (pc := 12) hc 0 rfl dX6_turn_12 ?_
    refine kc_X6_77 (pc := 13) hc rfl (zfitX (by decide) rfl rfl) rfl (Nat.le_of_ble_eq_true rfl) (ct_X6_record M (by assumption) ) dX6_turn_13 ?_
    refine z_iconst (pc := 16) hc 0 dX6_turn_16 ?_
    refine z_ist (pc := 17) (lv' := [(2, zI 0), (0, zR 38), (1, zI k)]) hc rfl (by decide) dX6_turn_17 ?_
    refine z_for k.toNat (fun i18 => [(2, zI ((i18 : Nat) : Int)), (0, zR 38), (1, zI k)]) (fun i18 => (zrep (fun _ => trM) i18 (recR M))) (by rfl) (by rfl) ?_ (fun i18 hi18 ih18 => ?_)
    · show zJW X 18 [(2, zI ((k.toNat : Nat) : Int)), (0, zR 38), (1, zI k)] [] (zrep (fun _ => trM) k.toNat (recR M))
      refine z_ild (pc := 18) hc 0 rfl dX6_turn_18 ?_
      refine z_ild (pc := 19) hc 2 rfl dX6_turn_19 ?_
      refine z_cge (pc := 20) (tgt := 33) hc (by omega) (by decide) dX6_turn_20 (fun h20 => ?_) (fun h20 => ?_)
      · show zJW X 33 [(2, zI ((k.toNat : Nat) : Int)), (0, zR 38), (1, zI k)] [] (zrep (fun _ => trM) k.toNat (recR M))
        refine z_ald (pc := 33) hc 1 rfl dX6_turn_33 ?_
        refine fg_X6_7 (pc := 34) hc rfl rfl dX6_turn_34 ?_
        refine z_iconst (pc := 37) hc 0 dX6_turn_37 ?_
        refine z_iald (pc := 38) hc rfl rfl rfl (by decide) (by omega) dX6_turn_38 ?_
        exact z_iret (pc := 39) hc he rfl dX6_turn_39 (⟨by rw [if_pos (by omega)], by rw [if_pos (by omega)]⟩)
      · exfalso; omega
    · show zJW X 18 [(2, zI ((i18 : Nat) : Int)), (0, zR 38), (1, zI k)] [] (zrep (fun _ => trM) i18 (recR M))
      have hp18 : tpP (recR M) (zrep (fun _ => trM) i18 (recR M)) := zrep_inv (P := tpP (recR M)) ⟨hZ1, fun _ _ _ _ => rfl⟩ _ (fun _ _ _ hx => tpP_s hx)
      have hz18 := hp18.1
      have hu18 : TbR (zrep (fun _ => trM) i18 (recR M)) := TbR_congr (hp18.2 _ (by decide) (by decide) (by decide)) (hp18.2 _ (by decide) (by decide) (by decide)) hU1
      refine z_ild (pc := 18) hc 0 rfl dX6_turn_18 ?_
      refine z_ild (pc := 19) hc 2 rfl dX6_turn_19 ?_
      refine z_cge (pc := 20) (tgt := 33) hc (by omega) (by decide) dX6_turn_20 (fun h20 => ?_) (fun h20 => ?_)
      · exfalso; omega
      · show zJW X 23 [(2, zI ((i18 : Nat) : Int)), (0, zR 38), (1, zI k)] [] (zrep (fun _ => trM) i18 (recR M))
        refine z_ald (pc := 23) hc 1 rfl dX6_turn_23 ?_
        refine kc_X6_139 (pc := 24) hc rfl (zfitX (by decide) rfl rfl) rfl (Nat.le_of_ble_eq_true rfl) (ct_X6_turnOnce (zrep (fun _ => trM) i18 (recR M)) (by assumption) (by assumption) ) dX6_turn_24 ?_
        refine z_iinc (pc := 27) (lv' := [(2, zI (((i18 : Nat) : Int) + 1)), (0, zR 38), (1, zI k)]) hc 0 rfl rfl (by decide) dX6_turn_27 ?_
        refine z_goto (pc := 30) (tgt := 18) hc (by decide) dX6_turn_30 ?_
        exact zJW_eq (by rfl) rfl (by rfl) ih18
  · show zJW X 9 [(0, zR 38), (1, zI k)] [] M
    refine z_bipush (pc := 9) hc (-2) (by decide) dX6_turn_9 ?_
    exact z_iret (pc := 11) hc he rfl dX6_turn_11 (by have h6 := of_decide_eq_false h6; exact ⟨by rw [if_neg (by omega)], by rw [if_neg (by omega)]⟩)

set_option maxRecDepth 100000 in
set_option maxHeartbeats 4000000 in
theorem ct_X6_pin (M : Mem) (hR : RI M) (r : Int) (hb_r : -2147483648 ≤ r ∧ r < 2147483648) (c : Int) (hb_c : -2147483648 ≤ c ∧ c < 2147483648) (s : Int) (hb_s : -2147483648 ≤ s ∧ s < 2147483648)  : zCt yX6_pin KX6_pin [zR 38, zI r, zI c, zI s] M (fun zv zM => zv = some (if inT (tsZ (M 39)) r c = true ∧ 0 ≤ s ∧ s ≤ 46 then (if decide (M 39 (3 + (M 39 1 * r + c)) = 1) = true then faT (tsZ ((pinR (recR M) (M 39 1 * r + c) s) 39)) r c else -3) else -1) ∧ zM = (if (inT (tsZ (M 39)) r c = true ∧ 0 ≤ s ∧ s ≤ 46) ∧ decide (M 39 (3 + (M 39 1 * r + c)) = 1) = true then (pinR (recR M) (M 39 1 * r + c) s) else M)) := by
  obtain ⟨hU, hZ, hO, hH⟩ := id hR
  obtain ⟨hs1, hs2, hs3, hs4, hs5, hs6, hs7⟩ := id hZ
  have hw9 := zhw hs1 hs2 hs3 hs4
  have hR1 := recR_RI hR
  obtain ⟨hU1, hZ1, hO1, hH1⟩ := id hR1
  have e39 : recR M 39 = M 39 := recR_off (by decide) (by decide)
  refine z_met (by decide) rfl (Nat.le_of_ble_eq_true rfl) (fun X hc he => ?_)
  show zJW X 0 [(0, zR 38), (1, zI r), (2, zI c), (3, zI s)] [] M
  refine z_ald (pc := 0) hc 0 rfl dX6_pin_0 ?_
  refine z_ild (pc := 1) hc 1 rfl dX6_pin_1 ?_
  refine z_ild (pc := 2) hc 2 rfl dX6_pin_2 ?_
  refine kc_X6_90 (pc := 3) hc rfl (zfitX (by decide) rfl rfl) rfl (Nat.le_of_ble_eq_true rfl) (ct_X6_isTile M (by assumption) r (by omega) c (by omega)) dX6_pin_3 ?_
  refine z_beq (pc := 6) (tgt := 16) hc (by decide) dX6_pin_6 (fun h6 => ?_) (fun h6 => ?_)
  · show zJW X 16 [(0, zR 38), (1, zI r), (2, zI c), (3, zI s)] [] M
    refine z_iconst (pc := 16) hc (-1) dX6_pin_16 ?_
    exact z_iret (pc := 17) hc he rfl dX6_pin_17 (by first | (have h13 := of_decide_eq_false h13; exact ⟨by rw [if_neg (fun h => h13 h.2)], by rw [if_neg (fun h => h13 h.1.2)]⟩) | exact ⟨by rw [if_neg (fun h => by rw [h6] at h; exact absurd h.1 (by decide))], by rw [if_neg (fun h => by rw [h6] at h; exact absurd h.1.1 (by decide))]⟩)
  · show zJW X 9 [(0, zR 38), (1, zI r), (2, zI c), (3, zI s)] [] M
    have h6' := h6
    rw [inT_Z] at h6'
    have h6' := of_decide_eq_true h6'
    have ix6 := zix ⟨h6'.1, h6'.2.1⟩ ⟨h6'.2.2.1, h6'.2.2.2⟩
    refine z_ild (pc := 9) hc 3 rfl dX6_pin_9 ?_
    refine kc_X6_145 (pc := 10) hc rfl (zfit0 (by decide) rfl rfl) (Nat.le_of_ble_eq_true rfl) (ct_X6_isShape M s (by omega)) dX6_pin_10 ?_
    refine z_bne (pc := 13) (tgt := 18) hc (by decide) dX6_pin_13 (fun h13 => ?_) (fun h13 => ?_)
    · show zJW X 18 [(0, zR 38), (1, zI r), (2, zI c), (3, zI s)] [] M
      have h13 := of_decide_eq_true h13
      refine z_ald (pc := 18) hc 0 rfl dX6_pin_18 ?_
      refine z_ild (pc := 19) hc 1 rfl dX6_pin_19 ?_
      refine z_ild (pc := 20) hc 2 rfl dX6_pin_20 ?_
      refine kc_X6_94 (pc := 21) hc rfl (zfitX (by decide) rfl rfl) rfl (Nat.le_of_ble_eq_true rfl) (ct_X6_at M r c) dX6_pin_21 ?_
      refine z_isw (pc := 24) (lv' := [(4, zI (M 39 1 * r + c)), (0, zR 38), (1, zI r), (2, zI c), (3, zI s)]) hc rfl (by decide) dX6_pin_24 ?_
      refine z_ald (pc := 26) hc 1 rfl dX6_pin_26 ?_
      refine z_ilw (pc := 27) hc 0 rfl dX6_pin_27 ?_
      refine kc_X6_97 (pc := 29) hc rfl (zfitX (by decide) rfl rfl) rfl (Nat.le_of_ble_eq_true rfl) (ct_X6_isLandAt M (by assumption) (M 39 1 * r + c) (by omega)) dX6_pin_29 ?_
      refine z_bne (pc := 32) (tgt := 38) hc (by decide) dX6_pin_32 (fun h32 => ?_) (fun h32 => ?_)
      · show zJW X 38 [(4, zI (M 39 1 * r + c)), (0, zR 38), (1, zI r), (2, zI c), (3, zI s)] [] M
        have hla : laT (tsZ (M 39)) r c = true := by
          have := laT_k hZ (k := (M 39 1 * r + c)) ⟨ix6.1, ix6.2.1⟩
          rw [ix6.2.2.1, ix6.2.2.2] at this
          rw [this]
          exact h32
        have pz : zRf ((pinR (recR M) (M 39 1 * r + c) s) 39) := zRf_pin hZ1 (by omega) (by omega)
        have pe : tsZ ((pinR (recR M) (M 39 1 * r + c) s) 39) = tsP (tsZ (M 39)) r c (if s = -6 then -1 else s) := by
          have := tsZ_pin (M := recR M) (r := r) (c := c) (s := s) hZ1 (by rw [e39]; omega) (by rw [e39]; omega)
          rw [e39] at this
          exact this
        have po : TOk (tsZ ((pinR (recR M) (M 39 1 * r + c) s) 39)) := by
          rw [pe]
          exact TOk_P hO (Or.inr (by rw [if_neg (by omega)]; exact ⟨by omega, by omega, hla⟩))
        have pu : TbR (pinR (recR M) (M 39 1 * r + c) s) := TbR_congr (zup_ne (by decide)) (zup_ne (by decide)) hU1
        have p0 : (pinR (recR M) (M 39 1 * r + c) s) 39 0 = M 39 0 := (zup_off (by omega)).trans (congrFun e39 0)
        have p1 : (pinR (recR M) (M 39 1 * r + c) s) 39 1 = M 39 1 := (zup_off (by omega)).trans (congrFun e39 1)
        have p2 : (M 39 1 * r + c) < (pinR (recR M) (M 39 1 * r + c) s) 39 0 * (pinR (recR M) (M 39 1 * r + c) s) 39 1 := by rw [p0, p1]; omega
        refine z_ald (pc := 38) hc 1 rfl dX6_pin_38 ?_
        refine kc_X6_77 (pc := 39) hc rfl (zfitX (by decide) rfl rfl) rfl (Nat.le_of_ble_eq_true rfl) (ct_X6_record M (by assumption) ) dX6_pin_39 ?_
        refine z_ald (pc := 42) hc 1 rfl dX6_pin_42 ?_
        refine fg_X6_7 (pc := 43) hc rfl rfl dX6_pin_43 ?_
        refine z_sipush (pc := 46) hc 147 (by decide) dX6_pin_46 ?_
        refine z_ilw (pc := 49) hc 0 rfl dX6_pin_49 ?_
        refine z_iadd (pc := 51) hc dX6_pin_51 ?_
        refine z_ild (pc := 52) hc 4 rfl dX6_pin_52 ?_
        refine z_iast (pc := 53) hc rfl rfl rfl (by decide) (by omega) dX6_pin_53 ?_
        show zJW X _ _ _ (pinR (recR M) (M 39 1 * r + c) s)
        refine z_ald (pc := 54) hc 1 rfl dX6_pin_54 ?_
        refine z_ilw (pc := 55) hc 0 rfl dX6_pin_55 ?_
        refine kc_X6_142 (pc := 57) hc rfl (zfitX (by decide) rfl rfl) rfl (Nat.le_of_ble_eq_true rfl) (ct_X6_faultsAt (pinR (recR M) (M 39 1 * r + c) s) (by assumption) (by assumption) (by assumption) (M 39 1 * r + c) (by first | assumption | omega)) dX6_pin_57 ?_
        exact z_iret (pc := 60) hc he rfl dX6_pin_60 (⟨by rw [if_pos ⟨h6, h13⟩, if_pos h32, p1, ix6.2.2.1, ix6.2.2.2], by rw [if_pos ⟨⟨h6, h13⟩, h32⟩]⟩)
      · show zJW X 35 [(4, zI (M 39 1 * r + c)), (0, zR 38), (1, zI r), (2, zI c), (3, zI s)] [] M
        refine z_bipush (pc := 35) hc (-3) (by decide) dX6_pin_35 ?_
        exact z_iret (pc := 37) hc he rfl dX6_pin_37 (⟨by rw [if_pos ⟨h6, h13⟩, if_neg (fun q => by rw [h32] at q; exact absurd q (by decide))], by rw [if_neg (fun h => by rw [h32] at h; exact absurd h.2 (by decide))]⟩)
    · show zJW X 16 [(0, zR 38), (1, zI r), (2, zI c), (3, zI s)] [] M
      refine z_iconst (pc := 16) hc (-1) dX6_pin_16 ?_
      exact z_iret (pc := 17) hc he rfl dX6_pin_17 (by first | (have h13 := of_decide_eq_false h13; exact ⟨by rw [if_neg (fun h => h13 h.2)], by rw [if_neg (fun h => h13 h.1.2)]⟩) | exact ⟨by rw [if_neg (fun h => by rw [h6] at h; exact absurd h.1 (by decide))], by rw [if_neg (fun h => by rw [h6] at h; exact absurd h.1.1 (by decide))]⟩)

set_option maxRecDepth 100000 in
set_option maxHeartbeats 4000000 in
theorem ct_X6_unpin (M : Mem) (hR : RI M) (r : Int) (hb_r : -2147483648 ≤ r ∧ r < 2147483648) (c : Int) (hb_c : -2147483648 ≤ c ∧ c < 2147483648)  : zCt yX6_unpin KX6_unpin [zR 38, zI r, zI c] M (fun zv zM => zv = some (if inT (tsZ (M 39)) r c = true then (if M 39 (147 + (M 39 1 * r + c)) = -6 then -3 else M 39 (147 + (M 39 1 * r + c))) else -1) ∧ zM = (if inT (tsZ (M 39)) r c = true ∧ M 39 (147 + (M 39 1 * r + c)) ≠ -6 then (pinR (recR M) (M 39 1 * r + c) (-6)) else M)) := by
  obtain ⟨hU, hZ, hO, hH⟩ := id hR
  obtain ⟨hs1, hs2, hs3, hs4, hs5, hs6, hs7⟩ := id hZ
  have hw9 := zhw hs1 hs2 hs3 hs4
  have hR1 := recR_RI hR
  obtain ⟨hU1, hZ1, hO1, hH1⟩ := id hR1
  have e39 : recR M 39 = M 39 := recR_off (by decide) (by decide)
  refine z_met (by decide) rfl (Nat.le_of_ble_eq_true rfl) (fun X hc he => ?_)
  show zJW X 0 [(0, zR 38), (1, zI r), (2, zI c)] [] M
  refine z_ald (pc := 0) hc 0 rfl dX6_unpin_0 ?_
  refine z_ild (pc := 1) hc 1 rfl dX6_unpin_1 ?_
  refine z_ild (pc := 2) hc 2 rfl dX6_unpin_2 ?_
  refine kc_X6_90 (pc := 3) hc rfl (zfitX (by decide) rfl rfl) rfl (Nat.le_of_ble_eq_true rfl) (ct_X6_isTile M (by assumption) r (by omega) c (by omega)) dX6_unpin_3 ?_
  refine z_bne (pc := 6) (tgt := 11) hc (by decide) dX6_unpin_6 (fun h6 => ?_) (fun h6 => ?_)
  · show zJW X 11 [(0, zR 38), (1, zI r), (2, zI c)] [] M
    have h6' := h6
    rw [inT_Z] at h6'
    have h6' := of_decide_eq_true h6'
    have ix6 := zix ⟨h6'.1, h6'.2.1⟩ ⟨h6'.2.2.1, h6'.2.2.2⟩
    have h7k := hs7 (M 39 1 * r + c) (by omega) (by omega)
    refine z_ald (pc := 11) hc 0 rfl dX6_unpin_11 ?_
    refine fg_X6_7 (pc := 12) hc rfl rfl dX6_unpin_12 ?_
    refine z_sipush (pc := 15) hc 147 (by decide) dX6_unpin_15 ?_
    refine z_ald (pc := 18) hc 0 rfl dX6_unpin_18 ?_
    refine z_ild (pc := 19) hc 1 rfl dX6_unpin_19 ?_
    refine z_ild (pc := 20) hc 2 rfl dX6_unpin_20 ?_
    refine kc_X6_94 (pc := 21) hc rfl (zfitX (by decide) rfl rfl) rfl (Nat.le_of_ble_eq_true rfl) (ct_X6_at M r c) dX6_unpin_21 ?_
    refine z_iadd (pc := 24) hc dX6_unpin_24 ?_
    refine z_iald (pc := 25) hc rfl rfl rfl (by decide) (by omega) dX6_unpin_25 ?_
    refine z_ist (pc := 26) (lv' := [(3, zI (M 39 (147 + (M 39 1 * r + c)))), (0, zR 38), (1, zI r), (2, zI c)]) hc rfl (by decide) dX6_unpin_26 ?_
    refine z_ild (pc := 27) hc 0 rfl dX6_unpin_27 ?_
    refine z_bipush (pc := 28) hc (-6) (by decide) dX6_unpin_28 ?_
    refine z_cne (pc := 30) (tgt := 36) hc (by omega) (by decide) dX6_unpin_30 (fun h30 => ?_) (fun h30 => ?_)
    · show zJW X 36 [(3, zI (M 39 (147 + (M 39 1 * r + c)))), (0, zR 38), (1, zI r), (2, zI c)] [] M
      refine z_ald (pc := 36) hc 1 rfl dX6_unpin_36 ?_
      refine kc_X6_77 (pc := 37) hc rfl (zfitX (by decide) rfl rfl) rfl (Nat.le_of_ble_eq_true rfl) (ct_X6_record M (by assumption) ) dX6_unpin_37 ?_
      refine z_ald (pc := 40) hc 1 rfl dX6_unpin_40 ?_
      refine fg_X6_7 (pc := 41) hc rfl rfl dX6_unpin_41 ?_
      refine z_sipush (pc := 44) hc 147 (by decide) dX6_unpin_44 ?_
      refine z_ald (pc := 47) hc 1 rfl dX6_unpin_47 ?_
      refine z_ild (pc := 48) hc 2 rfl dX6_unpin_48 ?_
      refine z_ild (pc := 49) hc 3 rfl dX6_unpin_49 ?_
      refine kc_X6_94 (pc := 50) hc rfl (zfitX (by decide) rfl rfl) rfl (Nat.le_of_ble_eq_true rfl) (ct_X6_at (recR M) r c) dX6_unpin_50 ?_
      rw [e39]
      refine z_iadd (pc := 53) hc dX6_unpin_53 ?_
      refine z_bipush (pc := 54) hc (-6) (by decide) dX6_unpin_54 ?_
      refine z_iast (pc := 56) hc rfl rfl rfl (by decide) (by omega) dX6_unpin_56 ?_
      refine z_ild (pc := 57) hc 0 rfl dX6_unpin_57 ?_
      exact z_iret (pc := 58) hc he rfl dX6_unpin_58 (⟨by rw [if_pos h6, if_neg (by omega)], by rw [if_pos ⟨h6, by omega⟩]; rfl⟩)
    · show zJW X 33 [(3, zI (M 39 (147 + (M 39 1 * r + c)))), (0, zR 38), (1, zI r), (2, zI c)] [] M
      refine z_bipush (pc := 33) hc (-3) (by decide) dX6_unpin_33 ?_
      exact z_iret (pc := 35) hc he rfl dX6_unpin_35 (⟨by rw [if_pos h6, if_pos (by omega)], by rw [if_neg (fun h => h.2 (by omega))]⟩)
  · show zJW X 9 [(0, zR 38), (1, zI r), (2, zI c)] [] M
    refine z_iconst (pc := 9) hc (-1) dX6_unpin_9 ?_
    exact z_iret (pc := 10) hc he rfl dX6_unpin_10 (⟨by rw [h6]; rfl, by rw [if_neg (fun h => by rw [h6] at h; exact absurd h.1 (by decide))]⟩)

set_option maxRecDepth 100000 in
set_option maxHeartbeats 4000000 in
theorem ct_X6_append (M : Mem) (hL : 0 ≤ M 38 6 ∧ M 38 6 ≤ 80) (x : Int) (hb_x : -2147483648 ≤ x ∧ x < 2147483648)  : zCt yX6_append KX6_append [zR 38, zI x] M (fun zv zM => zv = some (if 33 ≤ x ∧ x ≤ 126 then (if M 38 6 < 80 then M 38 6 + 1 else -4) else -2) ∧ zM = (if 33 ≤ x ∧ x ≤ 126 ∧ M 38 6 < 80 then zup (zup M 42 (M 38 6) x) 38 6 (M 38 6 + 1) else M)) := by
  skip
  refine z_met (by decide) rfl (Nat.le_of_ble_eq_true rfl) (fun X hc he => ?_)
  show zJW X 0 [(0, zR 38), (1, zI x)] [] M
  refine z_ild (pc := 0) hc 1 rfl dX6_append_0 ?_
  refine z_bipush (pc := 1) hc 33 (by decide) dX6_append_1 ?_
  refine z_bipush (pc := 3) hc 126 (by decide) dX6_append_3 ?_
  refine kc_X6_61 (pc := 5) hc rfl (zfit0 (by decide) rfl rfl) (Nat.le_of_ble_eq_true rfl) (ct_X6_in M x 33 126 (by omega) (by omega) (by omega)) dX6_append_5 ?_
  refine z_bne (pc := 8) (tgt := 14) hc (by decide) dX6_append_8 (fun h8 => ?_) (fun h8 => ?_)
  · show zJW X 14 [(0, zR 38), (1, zI x)] [] M
    have h8 := of_decide_eq_true h8
    refine z_ald (pc := 14) hc 0 rfl dX6_append_14 ?_
    refine fg_X6_176 (pc := 15) hc rfl rfl dX6_append_15 ?_
    refine z_bipush (pc := 18) hc 80 (by decide) dX6_append_18 ?_
    refine z_cne (pc := 20) (tgt := 26) hc (by omega) (by decide) dX6_append_20 (fun h20 => ?_) (fun h20 => ?_)
    · show zJW X 26 [(0, zR 38), (1, zI x)] [] M
      refine z_ald (pc := 26) hc 0 rfl dX6_append_26 ?_
      refine fg_X6_19 (pc := 27) hc rfl rfl dX6_append_27 ?_
      refine z_ald (pc := 30) hc 0 rfl dX6_append_30 ?_
      refine fg_X6_176 (pc := 31) hc rfl rfl dX6_append_31 ?_
      refine z_ild (pc := 34) hc 1 rfl dX6_append_34 ?_
      refine z_i2c (pc := 35) hc dX6_append_35 ?_
      rw [(zch_id (x := x) (by omega)).1]
      refine z_cast (pc := 36) hc (by exact (zch_id (x := x) (by omega)).2) rfl rfl rfl (by decide) (by omega) dX6_append_36 ?_
      refine z_ald (pc := 37) hc 0 rfl dX6_append_37 ?_
      refine z_dup (pc := 38) hc rfl dX6_append_38 ?_
      refine fg_X6_176 (pc := 39) hc rfl rfl dX6_append_39 ?_
      refine z_iconst (pc := 42) hc 1 dX6_append_42 ?_
      refine z_iadd (pc := 43) hc dX6_append_43 ?_
      refine fp_X6_176 (pc := 44) hc rfl rfl dX6_append_44 ?_
      refine z_ald (pc := 47) hc 0 rfl dX6_append_47 ?_
      refine fg_X6_176 (pc := 48) hc rfl rfl dX6_append_48 ?_
      exact z_iret (pc := 51) hc he rfl dX6_append_51 (⟨by rw [if_pos (by omega), if_pos (by omega), zup_at]; rfl, by rw [if_pos (by omega)]; rfl⟩)
    · show zJW X 23 [(0, zR 38), (1, zI x)] [] M
      refine z_bipush (pc := 23) hc (-4) (by decide) dX6_append_23 ?_
      exact z_iret (pc := 25) hc he rfl dX6_append_25 (⟨by rw [if_pos (by omega), if_neg (by omega)], by rw [if_neg (by omega)]⟩)
  · show zJW X 11 [(0, zR 38), (1, zI x)] [] M
    refine z_bipush (pc := 11) hc (-2) (by decide) dX6_append_11 ?_
    exact z_iret (pc := 13) hc he rfl dX6_append_13 (by have h8 := of_decide_eq_false h8; exact ⟨by rw [if_neg (by omega)], by rw [if_neg (by omega)]⟩)

set_option maxRecDepth 100000 in
set_option maxHeartbeats 4000000 in
theorem ct_X6_clearText (M : Mem)   : zCt yX6_clearText KX6_clearText [zR 38] M (fun zv zM => zv = some (M 38 6) ∧ zM = (zup M 38 6 0)) := by
  skip
  refine z_met (by decide) rfl (Nat.le_of_ble_eq_true rfl) (fun X hc he => ?_)
  show zJW X 0 [(0, zR 38)] [] M
  refine z_ald (pc := 0) hc 0 rfl dX6_clearText_0 ?_
  refine fg_X6_176 (pc := 1) hc rfl rfl dX6_clearText_1 ?_
  refine z_ist (pc := 4) (lv' := [(1, zI (M 38 6)), (0, zR 38)]) hc rfl (by decide) dX6_clearText_4 ?_
  refine z_ald (pc := 5) hc 1 rfl dX6_clearText_5 ?_
  refine z_iconst (pc := 6) hc 0 dX6_clearText_6 ?_
  refine fp_X6_176 (pc := 7) hc rfl rfl dX6_clearText_7 ?_
  refine z_ild (pc := 10) hc 0 rfl dX6_clearText_10 ?_
  exact z_iret (pc := 11) hc he rfl dX6_clearText_11 (⟨rfl, rfl⟩)
