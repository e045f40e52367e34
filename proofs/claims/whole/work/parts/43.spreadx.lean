set_option maxRecDepth 100000 in
set_option maxHeartbeats 4000000 in
theorem ct_X2_forget (M : Mem) : zCt yX2_forget KX2_forget [zR 33] M (fun zv zM => zv = none ∧ zM = (fun k z => if k = 35 ∧ 0 ≤ z ∧ z < 144 then -1 else M k z)) := by
  refine z_met (by decide) rfl (Nat.le_of_ble_eq_true rfl) (fun X hc he => ?_)
  show zJW X 0 [(0, zR 33)] [] M
  refine z_ald (pc := 0) hc 0 rfl dX2_forget_0 ?_
  refine fg_X2_15 (pc := 1) hc rfl rfl dX2_forget_1 ?_
  refine z_iconst (pc := 4) hc (-1) dX2_forget_4 ?_
  refine kc_X2_26 (pc := 5) hc rfl (zfitA (by decide) rfl rfl) (Nat.le_of_ble_eq_true rfl) (ct_J7_fill_53178 M (-1)) dX2_forget_5 ?_
  exact z_vret (pc := 8) hc he rfl dX2_forget_8 (⟨rfl, rfl⟩)

set_option maxRecDepth 100000 in
set_option maxHeartbeats 4000000 in
theorem ct_X2_stepsTo (M : Mem) (r c : Int) (hr : 0 ≤ r ∧ r < 12) (hc : 0 ≤ c ∧ c < 12) : zCt yX2_stepsTo KX2_stepsTo [zR 33, zI r, zI c] M (fun zv zM => zv = some (M 35 (r * 12 + c)) ∧ zM = M) := by
  refine z_met (by decide) rfl (Nat.le_of_ble_eq_true rfl) (fun X hc he => ?_)
  show zJW X 0 [(0, zR 33), (1, zI r), (2, zI c)] [] M
  refine z_ild (pc := 0) hc 1 rfl dX2_stepsTo_0 ?_
  refine z_bipush (pc := 1) hc 12 (by decide) dX2_stepsTo_1 ?_
  refine z_imul (pc := 3) hc dX2_stepsTo_3 ?_
  refine z_ild (pc := 4) hc 2 rfl dX2_stepsTo_4 ?_
  refine z_iadd (pc := 5) hc dX2_stepsTo_5 ?_
  refine z_ist (pc := 6) (lv' := [(3, zI ((r * 12) + c)), (0, zR 33), (1, zI r), (2, zI c)]) hc rfl (by decide) dX2_stepsTo_6 ?_
  refine z_ild (pc := 7) hc 0 rfl dX2_stepsTo_7 ?_
  refine z_ilt (pc := 8) (tgt := 27) hc (by omega) (by decide) dX2_stepsTo_8 (fun h8 => ?_) (fun h8 => ?_)
  · exfalso; omega
  · show zJW X 11 [(3, zI ((r * 12) + c)), (0, zR 33), (1, zI r), (2, zI c)] [] M
    refine z_ild (pc := 11) hc 0 rfl dX2_stepsTo_11 ?_
    refine z_sipush (pc := 12) hc 144 (by decide) dX2_stepsTo_12 ?_
    refine z_cge (pc := 15) (tgt := 27) hc (by omega) (by decide) dX2_stepsTo_15 (fun h15 => ?_) (fun h15 => ?_)
    · exfalso; omega
    · show zJW X 18 [(3, zI ((r * 12) + c)), (0, zR 33), (1, zI r), (2, zI c)] [] M
      refine z_ald (pc := 18) hc 1 rfl dX2_stepsTo_18 ?_
      refine fg_X2_15 (pc := 19) hc rfl rfl dX2_stepsTo_19 ?_
      refine z_ild (pc := 22) hc 0 rfl dX2_stepsTo_22 ?_
      refine z_iald (pc := 23) hc rfl rfl rfl (by decide) (by omega) dX2_stepsTo_23 ?_
      refine z_goto (pc := 24) (tgt := 28) hc (by decide) dX2_stepsTo_24 ?_
      exact z_iret (pc := 28) hc he rfl dX2_stepsTo_28 (⟨rfl, rfl⟩)

set_option maxRecDepth 100000 in
set_option maxHeartbeats 4000000 in
theorem ct_X2_hasReached (M : Mem) (r c : Int) (hr : 0 ≤ r ∧ r < 12) (hc : 0 ≤ c ∧ c < 12) (hv : -1 ≤ M 35 (r * 12 + c) ∧ M 35 (r * 12 + c) < 144) : zCt yX2_hasReached KX2_hasReached [zR 33, zI r, zI c] M (fun zv zM => zv = some (zbz (decide (M 35 (r * 12 + c) ≠ -1))) ∧ zM = M) := by
  refine z_met (by decide) rfl (Nat.le_of_ble_eq_true rfl) (fun X hc he => ?_)
  show zJW X 0 [(0, zR 33), (1, zI r), (2, zI c)] [] M
  refine z_ald (pc := 0) hc 0 rfl dX2_hasReached_0 ?_
  refine z_ild (pc := 1) hc 1 rfl dX2_hasReached_1 ?_
  refine z_ild (pc := 2) hc 2 rfl dX2_hasReached_2 ?_
  refine kc_X2_32 (pc := 3) hc rfl (zfitX (by decide) rfl rfl) rfl (Nat.le_of_ble_eq_true rfl) (ct_X2_stepsTo M r c (by omega) (by omega)) dX2_hasReached_3 ?_
  refine z_iconst (pc := 6) hc (-1) dX2_hasReached_6 ?_
  refine z_ceq (pc := 7) (tgt := 14) hc (by omega) (by decide) dX2_hasReached_7 (fun h7 => ?_) (fun h7 => ?_)
  · show zJW X 14 [(0, zR 33), (1, zI r), (2, zI c)] [] M
    refine z_iconst (pc := 14) hc 0 dX2_hasReached_14 ?_
    exact z_bret (pc := 15) (a := false) hc he rfl dX2_hasReached_15 (by refine ⟨?_, rfl⟩; congr 2; (first | exact (decide_eq_true (by omega)).symm | exact (decide_eq_false (by omega)).symm))
  · show zJW X 10 [(0, zR 33), (1, zI r), (2, zI c)] [] M
    refine z_iconst (pc := 10) hc 1 dX2_hasReached_10 ?_
    refine z_goto (pc := 11) (tgt := 15) hc (by decide) dX2_hasReached_11 ?_
    exact z_bret (pc := 15) (a := true) hc he rfl dX2_hasReached_15 (by refine ⟨?_, rfl⟩; congr 2; (first | exact (decide_eq_true (by omega)).symm | exact (decide_eq_false (by omega)).symm))
