set_option maxRecDepth 100000 in
set_option maxHeartbeats 4000000 in
theorem ct_X2_forget (M : Mem) : zCt yX2_forget KX2_forget [zR 33] M (fun zv zM => zv = none ∧ zM = (fun k z => if k = 35 ∧ 0 ≤ z ∧ z < 144 then -1 else M k z)) := by
  refine z_met (by decide) rfl (Nat.le_of_ble_eq_true rfl) (fun X hc he => ?_)
  show zJW X 0 [(0, zR 33)] [] M
  refine z_ald (pc := 0) hc 0 rfl dX2_forget_0 ?_
  refine fg_X2_15 (pc := 1) hc rfl rfl dX2_forget_1 ?_
  refine z_iconst (pc := 4) hc (-1) dX2_forget_4 ?_
  refine kc_X2_26 (pc := 5) hc rfl (zfitA (by decide) rfl rfl) (Nat.le_of_ble_eq_true rfl) (ct_J7_fill_53178 M (-1)) dX2_forget_5 ?_
  exact z_vret (pc := 8) hc he rfl dX2_forget_8 (⟨rfl, rfl⟩)

set_option maxRecDepth 100000 in
set_option maxHeartbeats 4000000 in
theorem ct_X2_stepsTo (M : Mem) (r c : Int) (hr : 0 ≤ r ∧ r < 12) (hc : 0 ≤ c ∧ c < 12) : zCt yX2_stepsTo KX2_stepsTo [zR 33, zI r, zI c] M (fun zv zM => zv = some (M 35 (r * 12 + c)) ∧ zM = M) := by
  refine z_met (by decide) rfl (Nat.le_of_ble_eq_true rfl) (fun X hc he => ?_)
  show zJW X 0 [(0, zR 33), (1, zI r), (2, zI c)] [] M
  refine z_ild (pc := 0) hc 1 rfl dX2_stepsTo_0 ?_
  refine z_bipush (pc := 1) hc 12 (by decide) dX2_stepsTo_1 ?_
  refine z_imul (pc := 3) hc dX2_stepsTo_3 ?_
  refine z_ild (pc := 4) hc 2 rfl dX2_stepsTo_4 ?_
  refine z_iadd (pc := 5) hc dX2_stepsTo_5 ?_
  refine z_ist (pc := 6) (lv' := [(3, zI ((r * 12) + c)), (0, zR 33), (1, zI r), (2, zI c)]) hc rfl (by decide) dX2_stepsTo_6 ?_
  refine z_ild (pc := 7) hc 0 rfl dX2_stepsTo_7 ?_
  refine z_ilt (pc := 8) (tgt := 27) hc (by omega) (by decide) dX2_stepsTo_8 (fun h8 => ?_) (fun h8 => ?_)
  · exfalso; omega
  · show zJW X 11 [(3, zI ((r * 12) + c)), (0, zR 33), (1, zI r), (2, zI c)] [] M
    refine z_ild (pc := 11) hc 0 rfl dX2_stepsTo_11 ?_
    refine z_sipush (pc := 12) hc 144 (by decide) dX2_stepsTo_12 ?_
    refine z_cge (pc := 15) (tgt := 27) hc (by omega) (by decide) dX2_stepsTo_15 (fun h15 => ?_) (fun h15 => ?_)
    · exfalso; omega
    · show zJW X 18 [(3, zI ((r * 12) + c)), (0, zR 33), (1, zI r), (2, zI c)] [] M
      refine z_ald (pc := 18) hc 1 rfl dX2_stepsTo_18 ?_
      refine fg_X2_15 (pc := 19) hc rfl rfl dX2_stepsTo_19 ?_
      refine z_ild (pc := 22) hc 0 rfl dX2_stepsTo_22 ?_
      refine z_iald (pc := 23) hc rfl rfl rfl (by decide) (by omega) dX2_stepsTo_23 ?_
      refine z_goto (pc := 24) (tgt := 28) hc (by decide) dX2_stepsTo_24 ?_
      exact z_iret (pc := 28) hc he rfl dX2_stepsTo_28 (⟨rfl, rfl⟩)

set_option maxRecDepth 100000 in
set_option maxHeartbeats 4000000 in
theorem ct_X2_hasReached (M : Mem) (r c : Int) (hr : 0 ≤ r ∧ r < 12) (hc : 0 ≤ c ∧ c < 12) (hv : -1 ≤ M 35 (r * 12 + c) ∧ M 35 (r * 12 + c) < 144) : zCt yX2_hasReached KX2_hasReached [zR 33, zI r, zI c] M (fun zv zM => zv = some (zbz (decide (M 35 (r * 12 + c) ≠ -1))) ∧ zM = M) := by
  refine z_met (by decide) rfl (Nat.le_of_ble_eq_true rfl) (fun X hc he => ?_)
  show zJW X 0 [(0, zR 33), (1, zI r), (2, zI c)] [] M
  refine z_ald (pc := 0) hc 0 rfl dX2_hasReached_0 ?_
  refine z_ild (pc := 1) hc 1 rfl dX2_hasReached_1 ?_
  refine z_ild (pc := 2) hc 2 rfl dX2_hasReached_2 ?_
  refine kc_X2_32 (pc := 3) hc rfl (zfitX (by decide) rfl rfl) rfl (Nat.le_of_ble_eq_true rfl) (ct_X2_stepsTo M r c (by omega) (by omega)) dX2_hasReached_3 ?_
  refine z_iconst (pc := 6) hc (-1) dX2_hasReached_6 ?_
  refine z_ceq (pc := 7) (tgt := 14) hc (by omega) (by decide) dX2_hasReached_7 (fun h7 => ?_) (fun h7 => ?_)
  · show zJW X 14 [(0, zR 33), (1, zI r), (2, zI c)] [] M
    refine z_iconst (pc := 14) hc 0 dX2_hasReached_14 ?_
    exact z_bret (pc := 15) (a := false) hc he rfl dX2_hasReached_15 (by refine ⟨?_, rfl⟩; congr 2; (first | exact (decide_eq_true (by omega)).symm | exact (decide_eq_false (by omega)).symm))
  · show zJW X 10 [(0, zR 33), (1, zI r), (2, zI c)] [] M
    refine z_iconst (pc := 10) hc 1 dX2_hasReached_10 ?_
    refine z_goto (pc := 11) (tgt := 15) hc (by decide) dX2_hasReached_11 ?_
    exact z_bret (pc := 15) (a := true) hc he rfl dX2_hasReached_15 (by refine ⟨?_, rfl⟩; congr 2; (first | exact (decide_eq_true (by omega)).symm | exact (decide_eq_false (by omega)).symm))

set_option maxRecDepth 100000 in
set_option maxHeartbeats 4000000 in
theorem ct_X2_reach (M : Mem) (hS : zSk M 0) (r c k : Int) (hr : -20 ≤ r ∧ r ≤ 20) (hc : -20 ≤ c ∧ c ≤ 20) (hv : ∀ z : Int, 0 ≤ z → z < 144 → -1 ≤ M 35 z ∧ M 35 z < 144) (hq : 0 ≤ M 33 2 ∧ M 33 2 ≤ 144) (hf : inT (tsX M 0) r c = true → M 35 (r * 12 + c) = -1 → M 33 2 < 144) : zCt yX2_reach KX2_reach [zR 33, zR 0, zI r, zI c, zI k] M (fun zv zM => zv = none ∧ zM = rhX M r c k) := by
  obtain ⟨hs1, hs2, hs3, hs4, hs5, hs6, hs7⟩ := id hS
  refine z_met (by decide) rfl (Nat.le_of_ble_eq_true rfl) (fun X hc he => ?_)
  show zJW X 0 [(0, zR 33), (1, zR 0), (2, zI r), (3, zI c), (4, zI k)] [] M
  refine z_ald (pc := 0) hc 1 rfl dX2_reach_0 ?_
  refine z_ild (pc := 1) hc 2 rfl dX2_reach_1 ?_
  refine z_ild (pc := 2) hc 3 rfl dX2_reach_2 ?_
  refine kc_X2_62 (pc := 3) hc rfl (zfitX (by decide) rfl rfl) rfl (by decide) (Nat.le_of_ble_eq_true rfl) (ct_X3_has M 0 (by omega) (by first | assumption ) r c (by omega) (by omega)) dX2_reach_3 ?_
  refine z_beq (pc := 6) (tgt := 18) hc (by decide) dX2_reach_6 (fun h6 => ?_) (fun h6 => ?_)
  · show zJW X 18 [(0, zR 33), (1, zR 0), (2, zI r), (3, zI c), (4, zI k)] [] M
    exact z_vret (pc := 18) hc he rfl dX2_reach_18 (by first | exact ⟨rfl, by rw [rhX, if_neg (fun q => by have := q.1; rw [h6] at this; exact absurd this (by decide))]⟩ | (have h15 := of_decide_eq_true h15; exact ⟨rfl, by rw [rhX, if_neg (fun q => h15 q.2)]⟩))
  · show zJW X 9 [(0, zR 33), (1, zR 0), (2, zI r), (3, zI c), (4, zI k)] [] M
    have h6' := h6
    rw [inT_X] at h6'
    have h6' := of_decide_eq_true h6'
    have hv9 := hv (r * 12 + c) (by omega) (by omega)
    refine z_ald (pc := 9) hc 0 rfl dX2_reach_9 ?_
    refine z_ild (pc := 10) hc 2 rfl dX2_reach_10 ?_
    refine z_ild (pc := 11) hc 3 rfl dX2_reach_11 ?_
    refine kc_X2_65 (pc := 12) hc rfl (zfitX (by decide) rfl rfl) rfl (Nat.le_of_ble_eq_true rfl) (ct_X2_hasReached M r c (by omega) (by omega) (by first | assumption | omega)) dX2_reach_12 ?_
    refine z_beq (pc := 15) (tgt := 19) hc (by decide) dX2_reach_15 (fun h15 => ?_) (fun h15 => ?_)
    · show zJW X 19 [(0, zR 33), (1, zR 0), (2, zI r), (3, zI c), (4, zI k)] [] M
      have h15 := of_decide_eq_false h15
      have hs9 : M 35 (r * 12 + c) = -1 := by omega
      have hf9 := hf h6 hs9
      refine z_ald (pc := 19) hc 0 rfl dX2_reach_19 ?_
      refine fg_X2_18 (pc := 20) hc rfl rfl dX2_reach_20 ?_
      refine z_ilt (pc := 23) (tgt := 36) hc (by omega) (by decide) dX2_reach_23 (fun h23 => ?_) (fun h23 => ?_)
      · exfalso; omega
      · show zJW X 26 [(0, zR 33), (1, zR 0), (2, zI r), (3, zI c), (4, zI k)] [] M
        refine z_ald (pc := 26) hc 0 rfl dX2_reach_26 ?_
        refine fg_X2_18 (pc := 27) hc rfl rfl dX2_reach_27 ?_
        refine z_sipush (pc := 30) hc 144 (by decide) dX2_reach_30 ?_
        refine z_clt (pc := 33) (tgt := 37) hc (by omega) (by decide) dX2_reach_33 (fun h33 => ?_) (fun h33 => ?_)
        · show zJW X 37 [(0, zR 33), (1, zR 0), (2, zI r), (3, zI c), (4, zI k)] [] M
          refine z_ild (pc := 37) hc 2 rfl dX2_reach_37 ?_
          refine z_bipush (pc := 38) hc 12 (by decide) dX2_reach_38 ?_
          refine z_imul (pc := 40) hc dX2_reach_40 ?_
          refine z_ild (pc := 41) hc 3 rfl dX2_reach_41 ?_
          refine z_iadd (pc := 42) hc dX2_reach_42 ?_
          refine z_isw (pc := 43) (lv' := [(5, zI ((r * 12) + c)), (0, zR 33), (1, zR 0), (2, zI r), (3, zI c), (4, zI k)]) hc rfl (by decide) dX2_reach_43 ?_
          refine z_ald (pc := 45) hc 1 rfl dX2_reach_45 ?_
          refine fg_X2_15 (pc := 46) hc rfl rfl dX2_reach_46 ?_
          refine z_ilw (pc := 49) hc 0 rfl dX2_reach_49 ?_
          refine z_ilw (pc := 51) hc 5 rfl dX2_reach_51 ?_
          refine z_iast (pc := 53) hc rfl rfl rfl (by decide) (by omega) dX2_reach_53 ?_
          refine z_ald (pc := 54) hc 1 rfl dX2_reach_54 ?_
          refine fg_X2_9 (pc := 55) hc rfl rfl dX2_reach_55 ?_
          refine z_ald (pc := 58) hc 1 rfl dX2_reach_58 ?_
          refine fg_X2_18 (pc := 59) hc rfl rfl dX2_reach_59 ?_
          rw [show (zup M 35 (r * 12 + c) k) 33 = M 33 from zup_ne (by decide)]
          refine z_ilw (pc := 62) hc 0 rfl dX2_reach_62 ?_
          refine z_iast (pc := 64) hc rfl rfl rfl (by decide) (by omega) dX2_reach_64 ?_
          refine z_ald (pc := 65) hc 1 rfl dX2_reach_65 ?_
          refine z_dup (pc := 66) hc rfl dX2_reach_66 ?_
          refine fg_X2_18 (pc := 67) hc rfl rfl dX2_reach_67 ?_
          rw [show (zup (zup M 35 (r * 12 + c) k) 34 (M 33 2) (r * 12 + c)) 33 = M 33 from by rw [zup_ne (by decide), zup_ne (by decide)]]
          refine z_iconst (pc := 70) hc 1 dX2_reach_70 ?_
          refine z_iadd (pc := 71) hc dX2_reach_71 ?_
          refine fp_X2_18 (pc := 72) hc rfl rfl dX2_reach_72 ?_
          show zJW X _ _ _ (rhA M r c k)
          have hz := (show inT (tsX M 0) r c = true ∧ M 35 (r * 12 + c) = -1 from ⟨h6, hs9⟩)
          refine z_ild (pc := 75) hc 3 rfl dX2_reach_75 ?_
          refine z_ieq (pc := 76) (tgt := 103) hc (by omega) (by decide) dX2_reach_76 (fun h76 => ?_) (fun h76 => ?_)
          · show zJW X 103 [(5, zI ((r * 12) + c)), (0, zR 33), (1, zR 0), (2, zI r), (3, zI c), (4, zI k)] [] (rhA M r c k)
            refine z_ald (pc := 103) hc 1 rfl dX2_reach_103 ?_
            refine z_iconst (pc := 104) hc 1 dX2_reach_104 ?_
            refine fp_X2_22 (pc := 105) (b := true) hc rfl rfl dX2_reach_105 ?_
            exact z_vret (pc := 108) hc he rfl dX2_reach_108 (by first | exact ⟨rfl, by rw [rhX, if_pos hz, if_pos (show zbEd (tsX M 0) r c = true from decide_eq_true (show r = 0 ∨ r = M 0 0 - 1 ∨ c = 0 ∨ c = M 0 1 - 1 by omega))]⟩ | exact ⟨rfl, by rw [rhX, if_pos hz, if_neg (show ¬ zbEd (tsX M 0) r c = true from fun q => absurd (of_decide_eq_true q) (show ¬ (r = 0 ∨ r = M 0 0 - 1 ∨ c = 0 ∨ c = M 0 1 - 1) by omega))]⟩)
          · show zJW X 79 [(5, zI ((r * 12) + c)), (0, zR 33), (1, zR 0), (2, zI r), (3, zI c), (4, zI k)] [] (rhA M r c k)
            refine z_ild (pc := 79) hc 3 rfl dX2_reach_79 ?_
            refine z_ald (pc := 80) hc 2 rfl dX2_reach_80 ?_
            refine fg_X2_68 (pc := 81) hc rfl rfl (by decide) dX2_reach_81 ?_
            rw [show (rhA M r c k) 0 = M 0 from by unfold rhA; rw [zup_ne (by decide), zup_ne (by decide), zup_ne (by decide)]]
            refine z_iconst (pc := 84) hc 1 dX2_reach_84 ?_
            refine z_isub (pc := 85) hc dX2_reach_85 ?_
            refine z_ceq (pc := 86) (tgt := 103) hc (by omega) (by decide) dX2_reach_86 (fun h86 => ?_) (fun h86 => ?_)
            · show zJW X 103 [(5, zI ((r * 12) + c)), (0, zR 33), (1, zR 0), (2, zI r), (3, zI c), (4, zI k)] [] (rhA M r c k)
              refine z_ald (pc := 103) hc 1 rfl dX2_reach_103 ?_
              refine z_iconst (pc := 104) hc 1 dX2_reach_104 ?_
              refine fp_X2_22 (pc := 105) (b := true) hc rfl rfl dX2_reach_105 ?_
              exact z_vret (pc := 108) hc he rfl dX2_reach_108 (by first | exact ⟨rfl, by rw [rhX, if_pos hz, if_pos (show zbEd (tsX M 0) r c = true from decide_eq_true (show r = 0 ∨ r = M 0 0 - 1 ∨ c = 0 ∨ c = M 0 1 - 1 by omega))]⟩ | exact ⟨rfl, by rw [rhX, if_pos hz, if_neg (show ¬ zbEd (tsX M 0) r c = true from fun q => absurd (of_decide_eq_true q) (show ¬ (r = 0 ∨ r = M 0 0 - 1 ∨ c = 0 ∨ c = M 0 1 - 1) by omega))]⟩)
            · show zJW X 89 [(5, zI ((r * 12) + c)), (0, zR 33), (1, zR 0), (2, zI r), (3, zI c), (4, zI k)] [] (rhA M r c k)
              refine z_ild (pc := 89) hc 4 rfl dX2_reach_89 ?_
              refine z_ieq (pc := 90) (tgt := 103) hc (by omega) (by decide) dX2_reach_90 (fun h90 => ?_) (fun h90 => ?_)
              · show zJW X 103 [(5, zI ((r * 12) + c)), (0, zR 33), (1, zR 0), (2, zI r), (3, zI c), (4, zI k)] [] (rhA M r c k)
                refine z_ald (pc := 103) hc 1 rfl dX2_reach_103 ?_
                refine z_iconst (pc := 104) hc 1 dX2_reach_104 ?_
                refine fp_X2_22 (pc := 105) (b := true) hc rfl rfl dX2_reach_105 ?_
                exact z_vret (pc := 108) hc he rfl dX2_reach_108 (by first | exact ⟨rfl, by rw [rhX, if_pos hz, if_pos (show zbEd (tsX M 0) r c = true from decide_eq_true (show r = 0 ∨ r = M 0 0 - 1 ∨ c = 0 ∨ c = M 0 1 - 1 by omega))]⟩ | exact ⟨rfl, by rw [rhX, if_pos hz, if_neg (show ¬ zbEd (tsX M 0) r c = true from fun q => absurd (of_decide_eq_true q) (show ¬ (r = 0 ∨ r = M 0 0 - 1 ∨ c = 0 ∨ c = M 0 1 - 1) by omega))]⟩)
              · show zJW X 93 [(5, zI ((r * 12) + c)), (0, zR 33), (1, zR 0), (2, zI r), (3, zI c), (4, zI k)] [] (rhA M r c k)
                refine z_ild (pc := 93) hc 4 rfl dX2_reach_93 ?_
                refine z_ald (pc := 94) hc 2 rfl dX2_reach_94 ?_
                refine fg_X2_71 (pc := 95) hc rfl rfl (by decide) dX2_reach_95 ?_
                rw [show (rhA M r c k) 0 = M 0 from by unfold rhA; rw [zup_ne (by decide), zup_ne (by decide), zup_ne (by decide)]]
                refine z_iconst (pc := 98) hc 1 dX2_reach_98 ?_
                refine z_isub (pc := 99) hc dX2_reach_99 ?_
                refine z_cne (pc := 100) (tgt := 108) hc (by omega) (by decide) dX2_reach_100 (fun h100 => ?_) (fun h100 => ?_)
                · show zJW X 108 [(5, zI ((r * 12) + c)), (0, zR 33), (1, zR 0), (2, zI r), (3, zI c), (4, zI k)] [] (rhA M r c k)
                  exact z_vret (pc := 108) hc he rfl dX2_reach_108 (by first | exact ⟨rfl, by rw [rhX, if_pos hz, if_pos (show zbEd (tsX M 0) r c = true from decide_eq_true (show r = 0 ∨ r = M 0 0 - 1 ∨ c = 0 ∨ c = M 0 1 - 1 by omega))]⟩ | exact ⟨rfl, by rw [rhX, if_pos hz, if_neg (show ¬ zbEd (tsX M 0) r c = true from fun q => absurd (of_decide_eq_true q) (show ¬ (r = 0 ∨ r = M 0 0 - 1 ∨ c = 0 ∨ c = M 0 1 - 1) by omega))]⟩)
                · show zJW X 103 [(5, zI ((r * 12) + c)), (0, zR 33), (1, zR 0), (2, zI r), (3, zI c), (4, zI k)] [] (rhA M r c k)
                  refine z_ald (pc := 103) hc 1 rfl dX2_reach_103 ?_
                  refine z_iconst (pc := 104) hc 1 dX2_reach_104 ?_
                  refine fp_X2_22 (pc := 105) (b := true) hc rfl rfl dX2_reach_105 ?_
                  exact z_vret (pc := 108) hc he rfl dX2_reach_108 (by first | exact ⟨rfl, by rw [rhX, if_pos hz, if_pos (show zbEd (tsX M 0) r c = true from decide_eq_true (show r = 0 ∨ r = M 0 0 - 1 ∨ c = 0 ∨ c = M 0 1 - 1 by omega))]⟩ | exact ⟨rfl, by rw [rhX, if_pos hz, if_neg (show ¬ zbEd (tsX M 0) r c = true from fun q => absurd (of_decide_eq_true q) (show ¬ (r = 0 ∨ r = M 0 0 - 1 ∨ c = 0 ∨ c = M 0 1 - 1) by omega))]⟩)
        · exfalso; omega
    · show zJW X 18 [(0, zR 33), (1, zR 0), (2, zI r), (3, zI c), (4, zI k)] [] M
      exact z_vret (pc := 18) hc he rfl dX2_reach_18 (by first | exact ⟨rfl, by rw [rhX, if_neg (fun q => by have := q.1; rw [h6] at this; exact absurd this (by decide))]⟩ | (have h15 := of_decide_eq_true h15; exact ⟨rfl, by rw [rhX, if_neg (fun q => h15 q.2)]⟩))
