set_option maxRecDepth 100000 in
set_option maxHeartbeats 4000000 in
theorem ct_X6_rowBy (M : Mem) (d : Int) (hd : 0 ≤ d ∧ d < 8) : zCt yX6_rowBy KX6_rowBy [zI d] M (fun zv zM => zv = some (zrow d) ∧ zM = M) := by
  refine z_met (by decide) rfl (Nat.le_of_ble_eq_true rfl) (fun X hc he => ?_)
  show zJW X 0 [(0, zI d)] [] M
  refine z_ild (pc := 0) hc 0 rfl dX6_rowBy_0 ?_
  refine z_bipush (pc := 1) hc 7 (by decide) dX6_rowBy_1 ?_
  refine z_ceq (pc := 3) (tgt := 11) hc (by omega) (by decide) dX6_rowBy_3 (fun h3 => ?_) (fun h3 => ?_)
  · show zJW X 11 [(0, zI d)] [] M
    refine z_iconst (pc := 11) hc (-1) dX6_rowBy_11 ?_
    refine z_goto (pc := 12) (tgt := 29) hc (by decide) dX6_rowBy_12 ?_
    exact z_iret (pc := 29) hc he rfl dX6_rowBy_29 (by (try simp only [decide_eq_true_eq, decide_eq_false_iff_not] at h3); refine ⟨congrArg some ?_, rfl⟩; unfold zrow; omega)
  · show zJW X 6 [(0, zI d)] [] M
    refine z_ild (pc := 6) hc 0 rfl dX6_rowBy_6 ?_
    refine z_iconst (pc := 7) hc 2 dX6_rowBy_7 ?_
    refine z_cge (pc := 8) (tgt := 15) hc (by omega) (by decide) dX6_rowBy_8 (fun h8 => ?_) (fun h8 => ?_)
    · show zJW X 15 [(0, zI d)] [] M
      refine z_ild (pc := 15) hc 0 rfl dX6_rowBy_15 ?_
      refine z_iconst (pc := 16) hc 3 dX6_rowBy_16 ?_
      refine z_iconst (pc := 17) hc 5 dX6_rowBy_17 ?_
      refine kc_X6_61 (pc := 18) hc rfl (zfitX (by decide) rfl rfl) (Nat.le_of_ble_eq_true rfl) (ct_X6_in M d 3 5 (by omega) (by omega) (by omega)) dX6_rowBy_18 ?_
      refine z_beq (pc := 21) (tgt := 28) hc (by decide) dX6_rowBy_21 (fun h21 => ?_) (fun h21 => ?_)
      · show zJW X 28 [(0, zI d)] [] M
        refine z_iconst (pc := 28) hc 0 dX6_rowBy_28 ?_
        exact z_iret (pc := 29) hc he rfl dX6_rowBy_29 (by (try simp only [decide_eq_true_eq, decide_eq_false_iff_not] at h3 h8 h21); refine ⟨congrArg some ?_, rfl⟩; unfold zrow; omega)
      · show zJW X 24 [(0, zI d)] [] M
        refine z_iconst (pc := 24) hc 1 dX6_rowBy_24 ?_
        refine z_goto (pc := 25) (tgt := 29) hc (by decide) dX6_rowBy_25 ?_
        exact z_iret (pc := 29) hc he rfl dX6_rowBy_29 (by (try simp only [decide_eq_true_eq, decide_eq_false_iff_not] at h3 h8 h21); refine ⟨congrArg some ?_, rfl⟩; unfold zrow; omega)
    · show zJW X 11 [(0, zI d)] [] M
      refine z_iconst (pc := 11) hc (-1) dX6_rowBy_11 ?_
      refine z_goto (pc := 12) (tgt := 29) hc (by decide) dX6_rowBy_12 ?_
      exact z_iret (pc := 29) hc he rfl dX6_rowBy_29 (by (try simp only [decide_eq_true_eq, decide_eq_false_iff_not] at h3 h8); refine ⟨congrArg some ?_, rfl⟩; unfold zrow; omega)

set_option maxRecDepth 100000 in
set_option maxHeartbeats 4000000 in
theorem ct_X6_columnBy (M : Mem) (d : Int) (hd : 0 ≤ d ∧ d < 8) : zCt yX6_columnBy KX6_columnBy [zI d] M (fun zv zM => zv = some (zcol d) ∧ zM = M) := by
  refine z_met (by decide) rfl (Nat.le_of_ble_eq_true rfl) (fun X hc he => ?_)
  show zJW X 0 [(0, zI d)] [] M
  refine z_ild (pc := 0) hc 0 rfl dX6_columnBy_0 ?_
  refine z_iconst (pc := 1) hc 1 dX6_columnBy_1 ?_
  refine z_iconst (pc := 2) hc 3 dX6_columnBy_2 ?_
  refine kc_X6_61 (pc := 3) hc rfl (zfitX (by decide) rfl rfl) (Nat.le_of_ble_eq_true rfl) (ct_X6_in M d 1 3 (by omega) (by omega) (by omega)) dX6_columnBy_3 ?_
  refine z_beq (pc := 6) (tgt := 13) hc (by decide) dX6_columnBy_6 (fun h6 => ?_) (fun h6 => ?_)
  · show zJW X 13 [(0, zI d)] [] M
    refine z_ild (pc := 13) hc 0 rfl dX6_columnBy_13 ?_
    refine z_iconst (pc := 14) hc 5 dX6_columnBy_14 ?_
    refine z_bipush (pc := 15) hc 7 (by decide) dX6_columnBy_15 ?_
    refine kc_X6_61 (pc := 17) hc rfl (zfitX (by decide) rfl rfl) (Nat.le_of_ble_eq_true rfl) (ct_X6_in M d 5 7 (by omega) (by omega) (by omega)) dX6_columnBy_17 ?_
    refine z_beq (pc := 20) (tgt := 27) hc (by decide) dX6_columnBy_20 (fun h20 => ?_) (fun h20 => ?_)
    · show zJW X 27 [(0, zI d)] [] M
      refine z_iconst (pc := 27) hc 0 dX6_columnBy_27 ?_
      exact z_iret (pc := 28) hc he rfl dX6_columnBy_28 (by (try simp only [decide_eq_true_eq, decide_eq_false_iff_not] at h6 h20); refine ⟨congrArg some ?_, rfl⟩; unfold zcol; omega)
    · show zJW X 23 [(0, zI d)] [] M
      refine z_iconst (pc := 23) hc (-1) dX6_columnBy_23 ?_
      refine z_goto (pc := 24) (tgt := 28) hc (by decide) dX6_columnBy_24 ?_
      exact z_iret (pc := 28) hc he rfl dX6_columnBy_28 (by (try simp only [decide_eq_true_eq, decide_eq_false_iff_not] at h6 h20); refine ⟨congrArg some ?_, rfl⟩; unfold zcol; omega)
  · show zJW X 9 [(0, zI d)] [] M
    refine z_iconst (pc := 9) hc 1 dX6_columnBy_9 ?_
    refine z_goto (pc := 10) (tgt := 28) hc (by decide) dX6_columnBy_10 ?_
    exact z_iret (pc := 28) hc he rfl dX6_columnBy_28 (by (try simp only [decide_eq_true_eq, decide_eq_false_iff_not] at h6); refine ⟨congrArg some ?_, rfl⟩; unfold zcol; omega)

set_option maxRecDepth 100000 in
set_option maxHeartbeats 4000000 in
theorem ct_X6_bit (M : Mem) (m d : Int) : zCt yX6_bit KX6_bit [zI m, zI d] M (fun zv zM => zv = some (biZ m d) ∧ zM = M) := by
  refine z_met (by decide) rfl (Nat.le_of_ble_eq_true rfl) (fun X hc he => ?_)
  show zJW X 0 [(0, zI m), (1, zI d)] [] M
  refine z_ild (pc := 0) hc 0 rfl dX6_bit_0 ?_
  refine z_ild (pc := 1) hc 1 rfl dX6_bit_1 ?_
  refine z_bipush (pc := 2) hc 7 (by decide) dX6_bit_2 ?_
  refine z_iand (pc := 4) hc dX6_bit_4 ?_
  refine z_ishr (pc := 5) hc dX6_bit_5 ?_
  refine z_iconst (pc := 6) hc 1 dX6_bit_6 ?_
  refine z_iand (pc := 7) hc dX6_bit_7 ?_
  exact z_iret (pc := 8) hc he rfl dX6_bit_8 (⟨rfl, rfl⟩)

set_option maxRecDepth 100000 in
set_option maxHeartbeats 4000000 in
theorem ct_X6_isShape (M : Mem) (s : Int) (hb_s : -2147483648 ≤ s ∧ s < 2147483648)  : zCt yX6_isShape KX6_isShape [zI s] M (fun zv zM => zv = some (zbz (decide (0 ≤ s ∧ s ≤ 46))) ∧ zM = M) := by
  refine z_met (by decide) rfl (Nat.le_of_ble_eq_true rfl) (fun X hc he => ?_)
  show zJW X 0 [(0, zI s)] [] M
  refine z_ild (pc := 0) hc 0 rfl dX6_isShape_0 ?_
  refine z_iconst (pc := 1) hc 0 dX6_isShape_1 ?_
  refine z_bipush (pc := 2) hc 46 (by decide) dX6_isShape_2 ?_
  refine kc_X6_61 (pc := 4) hc rfl (zfitX (by decide) rfl rfl) (Nat.le_of_ble_eq_true rfl) (ct_X6_in M s 0 46 (by omega) (by omega) (by omega)) dX6_isShape_4 ?_
  exact z_bret (pc := 7) (a := (decide (0 ≤ s ∧ s ≤ 46))) hc he rfl dX6_isShape_7 (⟨rfl, rfl⟩)

set_option maxRecDepth 100000 in
set_option maxHeartbeats 4000000 in
theorem ct_X6_reduced (M : Mem) (m : Int) (hm : 0 ≤ m ∧ m < 256) : zCt yX6_reduced KX6_reduced [zI m] M (fun zv zM => zv = some (rdZ m) ∧ zM = M) := by
  refine z_met (by decide) rfl (Nat.le_of_ble_eq_true rfl) (fun X hc he => ?_)
  show zJW X 0 [(0, zI m)] [] M
  refine z_ild (pc := 0) hc 0 rfl dX6_reduced_0 ?_
  refine z_ist (pc := 1) (lv' := [(1, zI m), (0, zI m)]) hc rfl (by decide) dX6_reduced_1 ?_
  refine z_iconst (pc := 2) hc 1 dX6_reduced_2 ?_
  refine z_ist (pc := 3) (lv' := [(2, zI 1), (1, zI m), (0, zI m)]) hc rfl (by decide) dX6_reduced_3 ?_
  refine z_for 4 (fun i4 => [(2, zI (2 * ((i4 : Nat) : Int) + 1)), (1, zI (zrep (fun (d : Nat) (x : Int) => if biZ m (2 * d + 1 - 1) + biZ m (2 * d + 1 + 1) = 2 then x else zan x (zxr (zsl 1 (2 * d + 1)) (-1))) i4 m)), (0, zI m)]) (fun i4 => M) (by rfl) (by rfl) ?_ (fun i4 hi4 ih4 => ?_)
  · show zJW X 4 [(2, zI (2 * 4 + 1)), (1, zI (zrep (fun (d : Nat) (x : Int) => if biZ m (2 * d + 1 - 1) + biZ m (2 * d + 1 + 1) = 2 then x else zan x (zxr (zsl 1 (2 * d + 1)) (-1))) 4 m)), (0, zI m)] [] M
    refine z_ild (pc := 4) hc 0 rfl dX6_reduced_4 ?_
    refine z_bipush (pc := 5) hc 8 (by decide) dX6_reduced_5 ?_
    refine z_cge (pc := 7) (tgt := 47) hc (by omega) (by decide) dX6_reduced_7 (fun h7 => ?_) (fun h7 => ?_)
    · show zJW X 47 [(2, zI (2 * 4 + 1)), (1, zI (zrep (fun (d : Nat) (x : Int) => if biZ m (2 * d + 1 - 1) + biZ m (2 * d + 1 + 1) = 2 then x else zan x (zxr (zsl 1 (2 * d + 1)) (-1))) 4 m)), (0, zI m)] [] M
      refine z_ild (pc := 47) hc 1 rfl dX6_reduced_47 ?_
      exact z_iret (pc := 48) hc he rfl dX6_reduced_48 (by rw [← rdR_eq hm]; exact ⟨rfl, rfl⟩)
    · exfalso; omega
  · show zJW X 4 [(2, zI (2 * ((i4 : Nat) : Int) + 1)), (1, zI (zrep (fun (d : Nat) (x : Int) => if biZ m (2 * d + 1 - 1) + biZ m (2 * d + 1 + 1) = 2 then x else zan x (zxr (zsl 1 (2 * d + 1)) (-1))) i4 m)), (0, zI m)] [] M
    have b1 := biZ_bd m (2 * (i4 : Int) + 1 - 1)
    have b2 := biZ_bd m (2 * (i4 : Int) + 1 + 1)
    refine z_ild (pc := 4) hc 0 rfl dX6_reduced_4 ?_
    refine z_bipush (pc := 5) hc 8 (by decide) dX6_reduced_5 ?_
    refine z_cge (pc := 7) (tgt := 47) hc (by omega) (by decide) dX6_reduced_7 (fun h7 => ?_) (fun h7 => ?_)
    · exfalso; omega
    · show zJW X 10 [(2, zI (2 * ((i4 : Nat) : Int) + 1)), (1, zI (zrep (fun (d : Nat) (x : Int) => if biZ m (2 * d + 1 - 1) + biZ m (2 * d + 1 + 1) = 2 then x else zan x (zxr (zsl 1 (2 * d + 1)) (-1))) i4 m)), (0, zI m)] [] M
      refine z_ild (pc := 10) hc 2 rfl dX6_reduced_10 ?_
      refine z_ild (pc := 11) hc 0 rfl dX6_reduced_11 ?_
      refine z_iconst (pc := 12) hc 1 dX6_reduced_12 ?_
      refine z_isub (pc := 13) hc dX6_reduced_13 ?_
      refine kc_X6_80 (pc := 14) hc rfl (zfitX (by decide) rfl rfl) (Nat.le_of_ble_eq_true rfl) (ct_X6_bit M m ((2 * ((i4 : Nat) : Int) + 1) - 1)) dX6_reduced_14 ?_
      refine z_ild (pc := 17) hc 2 rfl dX6_reduced_17 ?_
      refine z_ild (pc := 18) hc 0 rfl dX6_reduced_18 ?_
      refine z_iconst (pc := 19) hc 1 dX6_reduced_19 ?_
      refine z_iadd (pc := 20) hc dX6_reduced_20 ?_
      refine kc_X6_80 (pc := 21) hc rfl (zfitX (by decide) rfl rfl) (Nat.le_of_ble_eq_true rfl) (ct_X6_bit M m ((2 * ((i4 : Nat) : Int) + 1) + 1)) dX6_reduced_21 ?_
      refine z_iadd (pc := 24) hc dX6_reduced_24 ?_
      refine z_iconst (pc := 25) hc 2 dX6_reduced_25 ?_
      refine z_cne (pc := 26) (tgt := 33) hc (by omega) (by decide) dX6_reduced_26 (fun h26 => ?_) (fun h26 => ?_)
      · show zJW X 33 [(2, zI (2 * ((i4 : Nat) : Int) + 1)), (1, zI (zrep (fun (d : Nat) (x : Int) => if biZ m (2 * d + 1 - 1) + biZ m (2 * d + 1 + 1) = 2 then x else zan x (zxr (zsl 1 (2 * d + 1)) (-1))) i4 m)), (0, zI m)] [] M
        refine z_ild (pc := 33) hc 1 rfl dX6_reduced_33 ?_
        refine z_iconst (pc := 34) hc 1 dX6_reduced_34 ?_
        refine z_ild (pc := 35) hc 0 rfl dX6_reduced_35 ?_
        refine z_ishl (pc := 36) hc dX6_reduced_36 ?_
        refine z_iconst (pc := 37) hc (-1) dX6_reduced_37 ?_
        refine z_ixor (pc := 38) hc dX6_reduced_38 ?_
        refine z_iand (pc := 39) hc dX6_reduced_39 ?_
        refine z_ist (pc := 40) (lv' := [(1, zI (zan (zrep (fun (d : Nat) (x : Int) => if biZ m (2 * d + 1 - 1) + biZ m (2 * d + 1 + 1) = 2 then x else zan x (zxr (zsl 1 (2 * d + 1)) (-1))) i4 m) (zxr (zsl 1 (2 * ((i4 : Nat) : Int) + 1)) (-1)))), (2, zI (2 * ((i4 : Nat) : Int) + 1)), (0, zI m)]) hc rfl (by decide) dX6_reduced_40 ?_
        refine z_iinc (pc := 41) (lv' := [(2, zI ((2 * ((i4 : Nat) : Int) + 1) + 2)), (1, zI (zan (zrep (fun (d : Nat) (x : Int) => if biZ m (2 * d + 1 - 1) + biZ m (2 * d + 1 + 1) = 2 then x else zan x (zxr (zsl 1 (2 * d + 1)) (-1))) i4 m) (zxr (zsl 1 (2 * ((i4 : Nat) : Int) + 1)) (-1)))), (0, zI m)]) hc 1 rfl rfl (by decide) dX6_reduced_41 ?_
        refine z_goto (pc := 44) (tgt := 4) hc (by decide) dX6_reduced_44 ?_
        exact zJW_eq (by rw [show (2 * (i4 : Int) + 1 + 2) = 2 * ((i4 + 1 : Nat) : Int) + 1 by omega, zrep_succ]; first | rw [if_pos h26] | rw [if_neg h26]) rfl (by rfl) ih4
      · show zJW X 29 [(2, zI (2 * ((i4 : Nat) : Int) + 1)), (1, zI (zrep (fun (d : Nat) (x : Int) => if biZ m (2 * d + 1 - 1) + biZ m (2 * d + 1 + 1) = 2 then x else zan x (zxr (zsl 1 (2 * d + 1)) (-1))) i4 m)), (0, zI m)] [] M
        refine z_ild (pc := 29) hc 1 rfl dX6_reduced_29 ?_
        refine z_goto (pc := 30) (tgt := 40) hc (by decide) dX6_reduced_30 ?_
        refine z_ist (pc := 40) (lv' := [(1, zI (zrep (fun (d : Nat) (x : Int) => if biZ m (2 * d + 1 - 1) + biZ m (2 * d + 1 + 1) = 2 then x else zan x (zxr (zsl 1 (2 * d + 1)) (-1))) i4 m)), (2, zI (2 * ((i4 : Nat) : Int) + 1)), (0, zI m)]) hc rfl (by decide) dX6_reduced_40 ?_
        refine z_iinc (pc := 41) (lv' := [(2, zI ((2 * ((i4 : Nat) : Int) + 1) + 2)), (1, zI (zrep (fun (d : Nat) (x : Int) => if biZ m (2 * d + 1 - 1) + biZ m (2 * d + 1 + 1) = 2 then x else zan x (zxr (zsl 1 (2 * d + 1)) (-1))) i4 m)), (0, zI m)]) hc 1 rfl rfl (by decide) dX6_reduced_41 ?_
        refine z_goto (pc := 44) (tgt := 4) hc (by decide) dX6_reduced_44 ?_
        exact zJW_eq (by rw [show (2 * (i4 : Int) + 1 + 2) = 2 * ((i4 + 1 : Nat) : Int) + 1 by omega, zrep_succ]; first | rw [if_pos h26] | rw [if_neg h26]) rfl (by rfl) ih4

set_option maxRecDepth 100000 in
set_option maxHeartbeats 4000000 in
theorem ct_X6_bits (M : Mem) (x : Int) : zCt yX6_bits KX6_bits [zI x] M (fun zv zM => zv = some (bcZ x) ∧ zM = M) := by
  refine z_met (by decide) rfl (Nat.le_of_ble_eq_true rfl) (fun X hc he => ?_)
  show zJW X 0 [(0, zI x)] [] M
  refine z_iconst (pc := 0) hc 0 dX6_bits_0 ?_
  refine z_ist (pc := 1) (lv' := [(1, zI 0), (0, zI x)]) hc rfl (by decide) dX6_bits_1 ?_
  refine z_iconst (pc := 2) hc 0 dX6_bits_2 ?_
  refine z_ist (pc := 3) (lv' := [(2, zI 0), (1, zI 0), (0, zI x)]) hc rfl (by decide) dX6_bits_3 ?_
  refine z_for 8 (fun i4 => [(2, zI ((i4 : Nat) : Int)), (1, zI (zrep (fun (d : Nat) (n : Int) => n + zan (zsr x d) 1) i4 0)), (0, zI x)]) (fun i4 => M) (by rfl) (by rfl) ?_ (fun i4 hi4 ih4 => ?_)
  · show zJW X 4 [(2, zI 8), (1, zI (zrep (fun (d : Nat) (n : Int) => n + zan (zsr x d) 1) 8 0)), (0, zI x)] [] M
    refine z_ild (pc := 4) hc 0 rfl dX6_bits_4 ?_
    refine z_bipush (pc := 5) hc 8 (by decide) dX6_bits_5 ?_
    refine z_cge (pc := 7) (tgt := 24) hc (by omega) (by decide) dX6_bits_7 (fun h7 => ?_) (fun h7 => ?_)
    · show zJW X 24 [(2, zI 8), (1, zI (zrep (fun (d : Nat) (n : Int) => n + zan (zsr x d) 1) 8 0)), (0, zI x)] [] M
      refine z_ild (pc := 24) hc 1 rfl dX6_bits_24 ?_
      exact z_iret (pc := 25) hc he rfl dX6_bits_25 (⟨rfl, rfl⟩)
    · exfalso; omega
  · show zJW X 4 [(2, zI ((i4 : Nat) : Int)), (1, zI (zrep (fun (d : Nat) (n : Int) => n + zan (zsr x d) 1) i4 0)), (0, zI x)] [] M
    refine z_ild (pc := 4) hc 0 rfl dX6_bits_4 ?_
    refine z_bipush (pc := 5) hc 8 (by decide) dX6_bits_5 ?_
    refine z_cge (pc := 7) (tgt := 24) hc (by omega) (by decide) dX6_bits_7 (fun h7 => ?_) (fun h7 => ?_)
    · exfalso; omega
    · show zJW X 10 [(2, zI ((i4 : Nat) : Int)), (1, zI (zrep (fun (d : Nat) (n : Int) => n + zan (zsr x d) 1) i4 0)), (0, zI x)] [] M
      refine z_ild (pc := 10) hc 1 rfl dX6_bits_10 ?_
      refine z_ild (pc := 11) hc 2 rfl dX6_bits_11 ?_
      refine z_ild (pc := 12) hc 0 rfl dX6_bits_12 ?_
      refine z_ishr (pc := 13) hc dX6_bits_13 ?_
      refine z_iconst (pc := 14) hc 1 dX6_bits_14 ?_
      refine z_iand (pc := 15) hc dX6_bits_15 ?_
      refine z_iadd (pc := 16) hc dX6_bits_16 ?_
      refine z_ist (pc := 17) (lv' := [(1, zI (zrep (fun (d : Nat) (n : Int) => n + zan (zsr x d) 1) i4 0 + (zan (zsr x ((i4 : Nat) : Int)) 1))), (2, zI ((i4 : Nat) : Int)), (0, zI x)]) hc rfl (by decide) dX6_bits_17 ?_
      refine z_iinc (pc := 18) (lv' := [(2, zI (((i4 : Nat) : Int) + 1)), (1, zI (zrep (fun (d : Nat) (n : Int) => n + zan (zsr x d) 1) i4 0 + (zan (zsr x ((i4 : Nat) : Int)) 1))), (0, zI x)]) hc 1 rfl rfl (by decide) dX6_bits_18 ?_
      refine z_goto (pc := 21) (tgt := 4) hc (by decide) dX6_bits_21 ?_
      exact zJW_eq (by rfl) rfl (by rfl) ih4

set_option maxRecDepth 100000 in
set_option maxHeartbeats 4000000 in
theorem ct_X6_water (M : Mem) : zCt yX6_water KX6_water [zR 38] M (fun zv zM => zv = none ∧ zM = watR M 144) := by
  refine z_met (by decide) rfl (Nat.le_of_ble_eq_true rfl) (fun X hc he => ?_)
  show zJW X 0 [(0, zR 38)] [] M
  refine z_iconst (pc := 0) hc 0 dX6_water_0 ?_
  refine z_ist (pc := 1) (lv' := [(1, zI 0), (0, zR 38)]) hc rfl (by decide) dX6_water_1 ?_
  refine z_for 144 (fun i2 => [(1, zI ((i2 : Nat) : Int)), (0, zR 38)]) (fun i2 => (watR M ((i2 : Nat) : Int))) (by rfl) (by exact watR_0) ?_ (fun i2 hi2 ih2 => ?_)
  · show zJW X 2 [(1, zI 144), (0, zR 38)] [] (watR M 144)
    refine z_ild (pc := 2) hc 0 rfl dX6_water_2 ?_
    refine z_sipush (pc := 3) hc 144 (by decide) dX6_water_3 ?_
    refine z_cge (pc := 6) (tgt := 36) hc (by omega) (by decide) dX6_water_6 (fun h6 => ?_) (fun h6 => ?_)
    · show zJW X 36 [(1, zI 144), (0, zR 38)] [] (watR M 144)
      exact z_vret (pc := 36) hc he rfl dX6_water_36 (⟨rfl, rfl⟩)
    · exfalso; omega
  · show zJW X 2 [(1, zI ((i2 : Nat) : Int)), (0, zR 38)] [] (watR M ((i2 : Nat) : Int))
    refine z_ild (pc := 2) hc 0 rfl dX6_water_2 ?_
    refine z_sipush (pc := 3) hc 144 (by decide) dX6_water_3 ?_
    refine z_cge (pc := 6) (tgt := 36) hc (by omega) (by decide) dX6_water_6 (fun h6 => ?_) (fun h6 => ?_)
    · exfalso; omega
    · show zJW X 9 [(1, zI ((i2 : Nat) : Int)), (0, zR 38)] [] (watR M ((i2 : Nat) : Int))
      refine z_ald (pc := 9) hc 1 rfl dX6_water_9 ?_
      refine fg_X6_7 (pc := 10) hc rfl rfl dX6_water_10 ?_
      refine z_iconst (pc := 13) hc 3 dX6_water_13 ?_
      refine z_ild (pc := 14) hc 0 rfl dX6_water_14 ?_
      refine z_iadd (pc := 15) hc dX6_water_15 ?_
      refine z_iconst (pc := 16) hc 0 dX6_water_16 ?_
      refine z_iast (pc := 17) hc rfl rfl rfl (by decide) (by omega) dX6_water_17 ?_
      refine z_ald (pc := 18) hc 1 rfl dX6_water_18 ?_
      refine fg_X6_7 (pc := 19) hc rfl rfl dX6_water_19 ?_
      refine z_sipush (pc := 22) hc 147 (by decide) dX6_water_22 ?_
      refine z_ild (pc := 25) hc 0 rfl dX6_water_25 ?_
      refine z_iadd (pc := 26) hc dX6_water_26 ?_
      refine z_bipush (pc := 27) hc (-6) (by decide) dX6_water_27 ?_
      refine z_iast (pc := 29) hc rfl rfl rfl (by decide) (by omega) dX6_water_29 ?_
      refine z_iinc (pc := 30) (lv' := [(1, zI (((i2 : Nat) : Int) + 1)), (0, zR 38)]) hc 0 rfl rfl (by decide) dX6_water_30 ?_
      refine z_goto (pc := 33) (tgt := 2) hc (by decide) dX6_water_33 ?_
      exact zJW_eq (by rfl) rfl (by exact watR_s i2 (by omega)) ih2

set_option maxRecDepth 100000 in
set_option maxHeartbeats 4000000 in
theorem ct_X6_tiles (M : Mem) : zCt yX6_tiles KX6_tiles [zR 38] M (fun zv zM => zv = some (M 39 0 * M 39 1) ∧ zM = M) := by
  refine z_met (by decide) rfl (Nat.le_of_ble_eq_true rfl) (fun X hc he => ?_)
  show zJW X 0 [(0, zR 38)] [] M
  refine z_ald (pc := 0) hc 0 rfl dX6_tiles_0 ?_
  refine fg_X6_7 (pc := 1) hc rfl rfl dX6_tiles_1 ?_
  refine z_iconst (pc := 4) hc 0 dX6_tiles_4 ?_
  refine z_iald (pc := 5) hc rfl rfl rfl (by decide) (by omega) dX6_tiles_5 ?_
  refine z_ald (pc := 6) hc 0 rfl dX6_tiles_6 ?_
  refine fg_X6_7 (pc := 7) hc rfl rfl dX6_tiles_7 ?_
  refine z_iconst (pc := 10) hc 1 dX6_tiles_10 ?_
  refine z_iald (pc := 11) hc rfl rfl rfl (by decide) (by omega) dX6_tiles_11 ?_
  refine z_imul (pc := 12) hc dX6_tiles_12 ?_
  exact z_iret (pc := 13) hc he rfl dX6_tiles_13 (⟨rfl, rfl⟩)

set_option maxRecDepth 100000 in
set_option maxHeartbeats 4000000 in
theorem ct_X6_isTile (M : Mem) (hZ : zRf (M 39)) (r : Int) (hb_r : -2147483648 ≤ r ∧ r < 2147483648) (c : Int) (hb_c : -2147483648 ≤ c ∧ c < 2147483648)  : zCt yX6_isTile KX6_isTile [zR 38, zI r, zI c] M (fun zv zM => zv = some (zbz (inT (tsZ (M 39)) r c)) ∧ zM = M) := by
  obtain ⟨hs1, hs2, hs3, hs4, hs5, hs6, hs7⟩ := id hZ
  have hw9 := zhw hs1 hs2 hs3 hs4
  refine z_met (by decide) rfl (Nat.le_of_ble_eq_true rfl) (fun X hc he => ?_)
  show zJW X 0 [(0, zR 38), (1, zI r), (2, zI c)] [] M
  refine z_ild (pc := 0) hc 1 rfl dX6_isTile_0 ?_
  refine z_iconst (pc := 1) hc 0 dX6_isTile_1 ?_
  refine z_ald (pc := 2) hc 0 rfl dX6_isTile_2 ?_
  refine fg_X6_7 (pc := 3) hc rfl rfl dX6_isTile_3 ?_
  refine z_iconst (pc := 6) hc 0 dX6_isTile_6 ?_
  refine z_iald (pc := 7) hc rfl rfl rfl (by decide) (by omega) dX6_isTile_7 ?_
  refine z_iconst (pc := 8) hc 1 dX6_isTile_8 ?_
  refine z_isub (pc := 9) hc dX6_isTile_9 ?_
  refine kc_X6_61 (pc := 10) hc rfl (zfit0 (by decide) rfl rfl) (Nat.le_of_ble_eq_true rfl) (ct_X6_in M r 0 ((M 39 0) - 1) (by omega) (by omega) (by omega)) dX6_isTile_10 ?_
  refine z_beq (pc := 13) (tgt := 36) hc (by decide) dX6_isTile_13 (fun h13 => ?_) (fun h13 => ?_)
  · show zJW X 36 [(0, zR 38), (1, zI r), (2, zI c)] [] M
    refine z_iconst (pc := 36) hc 0 dX6_isTile_36 ?_
    exact z_bret (pc := 37) (a := false) hc he rfl dX6_isTile_37 (by refine ⟨?_, rfl⟩; rw [inT_Z]; congr 2; (try simp only [decide_eq_true_eq, decide_eq_false_iff_not] at h13); (first | exact (decide_eq_true (by omega)).symm | exact (decide_eq_false (by omega)).symm))
  · show zJW X 16 [(0, zR 38), (1, zI r), (2, zI c)] [] M
    refine z_ild (pc := 16) hc 2 rfl dX6_isTile_16 ?_
    refine z_iconst (pc := 17) hc 0 dX6_isTile_17 ?_
    refine z_ald (pc := 18) hc 0 rfl dX6_isTile_18 ?_
    refine fg_X6_7 (pc := 19) hc rfl rfl dX6_isTile_19 ?_
    refine z_iconst (pc := 22) hc 1 dX6_isTile_22 ?_
    refine z_iald (pc := 23) hc rfl rfl rfl (by decide) (by omega) dX6_isTile_23 ?_
    refine z_iconst (pc := 24) hc 1 dX6_isTile_24 ?_
    refine z_isub (pc := 25) hc dX6_isTile_25 ?_
    refine kc_X6_61 (pc := 26) hc rfl (zfit0 (by decide) rfl rfl) (Nat.le_of_ble_eq_true rfl) (ct_X6_in M c 0 ((M 39 1) - 1) (by omega) (by omega) (by omega)) dX6_isTile_26 ?_
    refine z_beq (pc := 29) (tgt := 36) hc (by decide) dX6_isTile_29 (fun h29 => ?_) (fun h29 => ?_)
    · show zJW X 36 [(0, zR 38), (1, zI r), (2, zI c)] [] M
      refine z_iconst (pc := 36) hc 0 dX6_isTile_36 ?_
      exact z_bret (pc := 37) (a := false) hc he rfl dX6_isTile_37 (by refine ⟨?_, rfl⟩; rw [inT_Z]; congr 2; (try simp only [decide_eq_true_eq, decide_eq_false_iff_not] at h13 h29); (first | exact (decide_eq_true (by omega)).symm | exact (decide_eq_false (by omega)).symm))
    · show zJW X 32 [(0, zR 38), (1, zI r), (2, zI c)] [] M
      refine z_iconst (pc := 32) hc 1 dX6_isTile_32 ?_
      refine z_goto (pc := 33) (tgt := 37) hc (by decide) dX6_isTile_33 ?_
      exact z_bret (pc := 37) (a := true) hc he rfl dX6_isTile_37 (by refine ⟨?_, rfl⟩; rw [inT_Z]; congr 2; (try simp only [decide_eq_true_eq, decide_eq_false_iff_not] at h13 h29); (first | exact (decide_eq_true (by omega)).symm | exact (decide_eq_false (by omega)).symm))

set_option maxRecDepth 100000 in
set_option maxHeartbeats 4000000 in
theorem ct_X6_at (M : Mem) (r c : Int) : zCt yX6_at KX6_at [zR 38, zI r, zI c] M (fun zv zM => zv = some (M 39 1 * r + c) ∧ zM = M) := by
  refine z_met (by decide) rfl (Nat.le_of_ble_eq_true rfl) (fun X hc he => ?_)
  show zJW X 0 [(0, zR 38), (1, zI r), (2, zI c)] [] M
  refine z_ald (pc := 0) hc 0 rfl dX6_at_0 ?_
  refine fg_X6_7 (pc := 1) hc rfl rfl dX6_at_1 ?_
  refine z_iconst (pc := 4) hc 1 dX6_at_4 ?_
  refine z_iald (pc := 5) hc rfl rfl rfl (by decide) (by omega) dX6_at_5 ?_
  refine z_ild (pc := 6) hc 1 rfl dX6_at_6 ?_
  refine z_imul (pc := 7) hc dX6_at_7 ?_
  refine z_ild (pc := 8) hc 2 rfl dX6_at_8 ?_
  refine z_iadd (pc := 9) hc dX6_at_9 ?_
  exact z_iret (pc := 10) hc he rfl dX6_at_10 (⟨rfl, rfl⟩)

set_option maxRecDepth 100000 in
set_option maxHeartbeats 4000000 in
theorem ct_X6_isLandAt (M : Mem) (hZ : zRf (M 39)) (k : Int) (hk : 0 ≤ k ∧ k < 144) : zCt yX6_isLandAt KX6_isLandAt [zR 38, zI k] M (fun zv zM => zv = some (zbz (decide (M 39 (3 + k) = 1))) ∧ zM = M) := by
  obtain ⟨hs1, hs2, hs3, hs4, hs5, hs6, hs7⟩ := id hZ
  have hw9 := zhw hs1 hs2 hs3 hs4
  have h6k := hs6 k hk.1 hk.2
  refine z_met (by decide) rfl (Nat.le_of_ble_eq_true rfl) (fun X hc he => ?_)
  show zJW X 0 [(0, zR 38), (1, zI k)] [] M
  refine z_ald (pc := 0) hc 0 rfl dX6_isLandAt_0 ?_
  refine fg_X6_7 (pc := 1) hc rfl rfl dX6_isLandAt_1 ?_
  refine z_iconst (pc := 4) hc 3 dX6_isLandAt_4 ?_
  refine z_ild (pc := 5) hc 1 rfl dX6_isLandAt_5 ?_
  refine z_iadd (pc := 6) hc dX6_isLandAt_6 ?_
  refine z_iald (pc := 7) hc rfl rfl rfl (by decide) (by omega) dX6_isLandAt_7 ?_
  refine z_iconst (pc := 8) hc 1 dX6_isLandAt_8 ?_
  refine z_cne (pc := 9) (tgt := 16) hc (by omega) (by decide) dX6_isLandAt_9 (fun h9 => ?_) (fun h9 => ?_)
  · show zJW X 16 [(0, zR 38), (1, zI k)] [] M
    refine z_iconst (pc := 16) hc 0 dX6_isLandAt_16 ?_
    exact z_bret (pc := 17) (a := false) hc he rfl dX6_isLandAt_17 (by refine ⟨congrArg (fun q => some (zbz q)) ?_, rfl⟩; first | exact (decide_eq_true (by omega)).symm | exact (decide_eq_false (by omega)).symm)
  · show zJW X 12 [(0, zR 38), (1, zI k)] [] M
    refine z_iconst (pc := 12) hc 1 dX6_isLandAt_12 ?_
    refine z_goto (pc := 13) (tgt := 17) hc (by decide) dX6_isLandAt_13 ?_
    exact z_bret (pc := 17) (a := true) hc he rfl dX6_isLandAt_17 (by refine ⟨congrArg (fun q => some (zbz q)) ?_, rfl⟩; first | exact (decide_eq_true (by omega)).symm | exact (decide_eq_false (by omega)).symm)

set_option maxRecDepth 100000 in
set_option maxHeartbeats 4000000 in
theorem ct_X6_isLandBeside (M : Mem) (hZ : zRf (M 39)) (r : Int) (hb_r : -100000 ≤ r ∧ r < 100000) (c : Int) (hb_c : -100000 ≤ c ∧ c < 100000) (d : Int) (hd : 0 ≤ d ∧ d < 8) : zCt yX6_isLandBeside KX6_isLandBeside [zR 38, zI r, zI c, zI d] M (fun zv zM => zv = some (zbz (laT (tsZ (M 39)) (r + zrow d) (c + zcol d))) ∧ zM = M) := by
  obtain ⟨hs1, hs2, hs3, hs4, hs5, hs6, hs7⟩ := id hZ
  have hw9 := zhw hs1 hs2 hs3 hs4
  have zr := zrow_bd d
  have zc := zcol_bd d
  refine z_met (by decide) rfl (Nat.le_of_ble_eq_true rfl) (fun X hc he => ?_)
  show zJW X 0 [(0, zR 38), (1, zI r), (2, zI c), (3, zI d)] [] M
  refine z_ild (pc := 0) hc 1 rfl dX6_isLandBeside_0 ?_
  refine z_ild (pc := 1) hc 3 rfl dX6_isLandBeside_1 ?_
  refine kc_X6_84 (pc := 2) hc rfl (zfit0 (by decide) rfl rfl) (Nat.le_of_ble_eq_true rfl) (ct_X6_rowBy M d (by omega)) dX6_isLandBeside_2 ?_
  refine z_iadd (pc := 5) hc dX6_isLandBeside_5 ?_
  refine z_isw (pc := 6) (lv' := [(4, zI (r + (zrow d))), (0, zR 38), (1, zI r), (2, zI c), (3, zI d)]) hc rfl (by decide) dX6_isLandBeside_6 ?_
  refine z_ild (pc := 8) hc 3 rfl dX6_isLandBeside_8 ?_
  refine z_ild (pc := 9) hc 4 rfl dX6_isLandBeside_9 ?_
  refine kc_X6_87 (pc := 10) hc rfl (zfit0 (by decide) rfl rfl) (Nat.le_of_ble_eq_true rfl) (ct_X6_columnBy M d (by omega)) dX6_isLandBeside_10 ?_
  refine z_iadd (pc := 13) hc dX6_isLandBeside_13 ?_
  refine z_isw (pc := 14) (lv' := [(5, zI (c + (zcol d))), (4, zI (r + (zrow d))), (0, zR 38), (1, zI r), (2, zI c), (3, zI d)]) hc rfl (by decide) dX6_isLandBeside_14 ?_
  refine z_ald (pc := 16) hc 2 rfl dX6_isLandBeside_16 ?_
  refine z_ilw (pc := 17) hc 1 rfl dX6_isLandBeside_17 ?_
  refine z_ilw (pc := 19) hc 0 rfl dX6_isLandBeside_19 ?_
  refine kc_X6_90 (pc := 21) hc rfl (zfitX (by decide) rfl rfl) rfl (Nat.le_of_ble_eq_true rfl) (ct_X6_isTile M (by assumption) (r + (zrow d)) (by omega) (c + (zcol d)) (by omega)) dX6_isLandBeside_21 ?_
  refine z_beq (pc := 24) (tgt := 42) hc (by decide) dX6_isLandBeside_24 (fun h24 => ?_) (fun h24 => ?_)
  · show zJW X 42 [(5, zI (c + (zcol d))), (4, zI (r + (zrow d))), (0, zR 38), (1, zI r), (2, zI c), (3, zI d)] [] M
    have h24' := h24
    rw [inT_Z] at h24'
    have h24' := of_decide_eq_false h24'
    refine z_ald (pc := 42) hc 2 rfl dX6_isLandBeside_42 ?_
    refine fg_X6_7 (pc := 43) hc rfl rfl dX6_isLandBeside_43 ?_
    refine z_iconst (pc := 46) hc 2 dX6_isLandBeside_46 ?_
    refine z_iald (pc := 47) hc rfl rfl rfl (by decide) (by omega) dX6_isLandBeside_47 ?_
    refine z_iconst (pc := 48) hc 1 dX6_isLandBeside_48 ?_
    refine z_cne (pc := 49) (tgt := 56) hc (by omega) (by decide) dX6_isLandBeside_49 (fun h49 => ?_) (fun h49 => ?_)
    · show zJW X 56 [(5, zI (c + (zcol d))), (4, zI (r + (zrow d))), (0, zR 38), (1, zI r), (2, zI c), (3, zI d)] [] M
      refine z_iconst (pc := 56) hc 0 dX6_isLandBeside_56 ?_
      exact z_bret (pc := 57) (a := false) hc he rfl dX6_isLandBeside_57 (by refine ⟨congrArg (fun q => some (zbz q)) ?_, rfl⟩; rw [laT_Z]; first | (rw [if_pos h24']; done) | (rw [if_neg h24']; first | exact (decide_eq_true (by omega)).symm | exact (decide_eq_false (by omega)).symm))
    · show zJW X 52 [(5, zI (c + (zcol d))), (4, zI (r + (zrow d))), (0, zR 38), (1, zI r), (2, zI c), (3, zI d)] [] M
      refine z_iconst (pc := 52) hc 1 dX6_isLandBeside_52 ?_
      refine z_goto (pc := 53) (tgt := 57) hc (by decide) dX6_isLandBeside_53 ?_
      exact z_bret (pc := 57) (a := true) hc he rfl dX6_isLandBeside_57 (by refine ⟨congrArg (fun q => some (zbz q)) ?_, rfl⟩; rw [laT_Z]; first | (rw [if_pos h24']; done) | (rw [if_neg h24']; first | exact (decide_eq_true (by omega)).symm | exact (decide_eq_false (by omega)).symm))
  · show zJW X 27 [(5, zI (c + (zcol d))), (4, zI (r + (zrow d))), (0, zR 38), (1, zI r), (2, zI c), (3, zI d)] [] M
    have h24' := h24
    rw [inT_Z] at h24'
    have h24' := of_decide_eq_true h24'
    have ix24 := zix ⟨h24'.1, h24'.2.1⟩ ⟨h24'.2.2.1, h24'.2.2.2⟩
    refine z_ald (pc := 27) hc 2 rfl dX6_isLandBeside_27 ?_
    refine z_ald (pc := 28) hc 2 rfl dX6_isLandBeside_28 ?_
    refine z_ilw (pc := 29) hc 1 rfl dX6_isLandBeside_29 ?_
    refine z_ilw (pc := 31) hc 0 rfl dX6_isLandBeside_31 ?_
    refine kc_X6_94 (pc := 33) hc rfl (zfitX (by decide) rfl rfl) rfl (Nat.le_of_ble_eq_true rfl) (ct_X6_at M (r + (zrow d)) (c + (zcol d))) dX6_isLandBeside_33 ?_
    refine kc_X6_97 (pc := 36) hc rfl (zfitX (by decide) rfl rfl) rfl (Nat.le_of_ble_eq_true rfl) (ct_X6_isLandAt M (by assumption) (M 39 1 * (r + (zrow d)) + (c + (zcol d))) (by omega)) dX6_isLandBeside_36 ?_
    refine z_goto (pc := 39) (tgt := 57) hc (by decide) dX6_isLandBeside_39 ?_
    exact z_bret (pc := 57) (a := (decide (M 39 (3 + (M 39 1 * (r + (zrow d)) + (c + (zcol d)))) = 1))) hc he rfl dX6_isLandBeside_57 (by refine ⟨congrArg (fun q => some (zbz q)) ?_, rfl⟩; rw [laT_Z]; first | (rw [if_pos h24']; done) | (rw [if_neg h24']; first | exact (decide_eq_true (by omega)).symm | exact (decide_eq_false (by omega)).symm))

set_option maxRecDepth 100000 in
set_option maxHeartbeats 4000000 in
theorem ct_X6_around (M : Mem) (hZ : zRf (M 39)) (r : Int) (hb_r : -100000 ≤ r ∧ r < 100000) (c : Int) (hb_c : -100000 ≤ c ∧ c < 100000)  : zCt yX6_around KX6_around [zR 38, zI r, zI c] M (fun zv zM => zv = some (arT (tsZ (M 39)) r c) ∧ zM = M) := by
  obtain ⟨hs1, hs2, hs3, hs4, hs5, hs6, hs7⟩ := id hZ
  have hw9 := zhw hs1 hs2 hs3 hs4
  refine z_met (by decide) rfl (Nat.le_of_ble_eq_true rfl) (fun X hc he => ?_)
  show zJW X 0 [(0, zR 38), (1, zI r), (2, zI c)] [] M
  refine z_iconst (pc := 0) hc 0 dX6_around_0 ?_
  refine z_ist (pc := 1) (lv' := [(3, zI 0), (0, zR 38), (1, zI r), (2, zI c)]) hc rfl (by decide) dX6_around_1 ?_
  refine z_iconst (pc := 2) hc 0 dX6_around_2 ?_
  refine z_isw (pc := 3) (lv' := [(4, zI 0), (3, zI 0), (0, zR 38), (1, zI r), (2, zI c)]) hc rfl (by decide) dX6_around_3 ?_
  refine z_for 8 (fun i5 => [(4, zI ((i5 : Nat) : Int)), (3, zI (zmk (afT (tsZ (M 39)) r c) i5)), (0, zR 38), (1, zI r), (2, zI c)]) (fun i5 => M) (by rfl) (by rfl) ?_ (fun i5 hi5 ih5 => ?_)
  · show zJW X 5 [(4, zI 8), (3, zI (zmk (afT (tsZ (M 39)) r c) 8)), (0, zR 38), (1, zI r), (2, zI c)] [] M
    refine z_ilw (pc := 5) hc 0 rfl dX6_around_5 ?_
    refine z_bipush (pc := 7) hc 8 (by decide) dX6_around_7 ?_
    refine z_cge (pc := 9) (tgt := 40) hc (by omega) (by decide) dX6_around_9 (fun h9 => ?_) (fun h9 => ?_)
    · show zJW X 40 [(4, zI 8), (3, zI (zmk (afT (tsZ (M 39)) r c) 8)), (0, zR 38), (1, zI r), (2, zI c)] [] M
      refine z_ild (pc := 40) hc 1 rfl dX6_around_40 ?_
      exact z_iret (pc := 41) hc he rfl dX6_around_41 (⟨rfl, rfl⟩)
    · exfalso; omega
  · show zJW X 5 [(4, zI ((i5 : Nat) : Int)), (3, zI (zmk (afT (tsZ (M 39)) r c) i5)), (0, zR 38), (1, zI r), (2, zI c)] [] M
    have zb := zmk_bd (afT (tsZ (M 39)) r c) i5
    have z2 : (2 : Int) ^ i5 ≤ 256 := by
      have := Nat.pow_le_pow_right (n := 2) (by decide) (show i5 ≤ 8 by omega)
      have e : ((2 ^ i5 : Nat) : Int) = (2 : Int) ^ i5 := by simp
      omega
    refine z_ilw (pc := 5) hc 0 rfl dX6_around_5 ?_
    refine z_bipush (pc := 7) hc 8 (by decide) dX6_around_7 ?_
    refine z_cge (pc := 9) (tgt := 40) hc (by omega) (by decide) dX6_around_9 (fun h9 => ?_) (fun h9 => ?_)
    · exfalso; omega
    · show zJW X 12 [(4, zI ((i5 : Nat) : Int)), (3, zI (zmk (afT (tsZ (M 39)) r c) i5)), (0, zR 38), (1, zI r), (2, zI c)] [] M
      refine z_ild (pc := 12) hc 1 rfl dX6_around_12 ?_
      refine z_ald (pc := 13) hc 2 rfl dX6_around_13 ?_
      refine z_ild (pc := 14) hc 3 rfl dX6_around_14 ?_
      refine z_ild (pc := 15) hc 4 rfl dX6_around_15 ?_
      refine z_ilw (pc := 16) hc 0 rfl dX6_around_16 ?_
      refine kc_X6_101 (pc := 18) hc rfl (zfitX (by decide) rfl rfl) rfl (Nat.le_of_ble_eq_true rfl) (ct_X6_isLandBeside M (by assumption) r (by omega) c (by omega) ((i5 : Nat) : Int) (by omega)) dX6_around_18 ?_
      refine z_beq (pc := 21) (tgt := 31) hc (by decide) dX6_around_21 (fun h21 => ?_) (fun h21 => ?_)
      · show zJW X 31 [(4, zI ((i5 : Nat) : Int)), (3, zI (zmk (afT (tsZ (M 39)) r c) i5)), (0, zR 38), (1, zI r), (2, zI c)] [zI (zmk (afT (tsZ (M 39)) r c) i5)] M
        refine z_iconst (pc := 31) hc 0 dX6_around_31 ?_
        refine z_ior (pc := 32) hc dX6_around_32 ?_
        refine z_ist (pc := 33) (lv' := [(3, zI (zor (zmk (afT (tsZ (M 39)) r c) i5) 0)), (4, zI ((i5 : Nat) : Int)), (0, zR 38), (1, zI r), (2, zI c)]) hc rfl (by decide) dX6_around_33 ?_
        refine z_iinc (pc := 34) (lv' := [(4, zI (((i5 : Nat) : Int) + 1)), (3, zI (zor (zmk (afT (tsZ (M 39)) r c) i5) 0)), (0, zR 38), (1, zI r), (2, zI c)]) hc 1 rfl rfl (by decide) dX6_around_34 ?_
        refine z_goto (pc := 37) (tgt := 5) hc (by decide) dX6_around_37 ?_
        exact zJW_eq (by first | (rw [zmk_or (f := (afT (tsZ (M 39)) r c)) hi5 (by simp [afT, h21])]; rfl) | (rw [zor_0 (by omega), zmk_no (f := (afT (tsZ (M 39)) r c)) (d := i5) (by simp [afT, h21])]; rfl)) rfl (by rfl) ih5
      · show zJW X 24 [(4, zI ((i5 : Nat) : Int)), (3, zI (zmk (afT (tsZ (M 39)) r c) i5)), (0, zR 38), (1, zI r), (2, zI c)] [zI (zmk (afT (tsZ (M 39)) r c) i5)] M
        refine z_iconst (pc := 24) hc 1 dX6_around_24 ?_
        refine z_ilw (pc := 25) hc 0 rfl dX6_around_25 ?_
        refine z_ishl (pc := 27) hc dX6_around_27 ?_
        refine z_goto (pc := 28) (tgt := 32) hc (by decide) dX6_around_28 ?_
        refine z_ior (pc := 32) hc dX6_around_32 ?_
        refine z_ist (pc := 33) (lv' := [(3, zI (zor (zmk (afT (tsZ (M 39)) r c) i5) (zsl 1 ((i5 : Nat) : Int)))), (4, zI ((i5 : Nat) : Int)), (0, zR 38), (1, zI r), (2, zI c)]) hc rfl (by decide) dX6_around_33 ?_
        refine z_iinc (pc := 34) (lv' := [(4, zI (((i5 : Nat) : Int) + 1)), (3, zI (zor (zmk (afT (tsZ (M 39)) r c) i5) (zsl 1 ((i5 : Nat) : Int)))), (0, zR 38), (1, zI r), (2, zI c)]) hc 1 rfl rfl (by decide) dX6_around_34 ?_
        refine z_goto (pc := 37) (tgt := 5) hc (by decide) dX6_around_37 ?_
        exact zJW_eq (by first | (rw [zmk_or (f := (afT (tsZ (M 39)) r c)) hi5 (by simp [afT, h21])]; rfl) | (rw [zor_0 (by omega), zmk_no (f := (afT (tsZ (M 39)) r c)) (d := i5) (by simp [afT, h21])]; rfl)) rfl (by rfl) ih5

set_option maxRecDepth 100000 in
set_option maxHeartbeats 4000000 in
theorem ct_X6_right (M : Mem) (hZ : zRf (M 39)) (hU : TbR M) (k : Int) (hk : 0 ≤ k ∧ k < M 39 0 * M 39 1)  : zCt yX6_right KX6_right [zR 38, zI k] M (fun zv zM => zv = some (rsT (tsZ (M 39)) (k / M 39 1) (k % M 39 1)) ∧ zM = M) := by
  obtain ⟨hs1, hs2, hs3, hs4, hs5, hs6, hs7⟩ := id hZ
  have hw9 := zhw hs1 hs2 hs3 hs4
  have kx := zkx hk (by omega)
  have ab := arT_bd (tsZ (M 39)) (k / M 39 1) (k % M 39 1)
  have rb := rdZ_bd ab
  refine z_met (by decide) rfl (Nat.le_of_ble_eq_true rfl) (fun X hc he => ?_)
  show zJW X 0 [(0, zR 38), (1, zI k)] [] M
  refine z_ald (pc := 0) hc 0 rfl dX6_right_0 ?_
  refine fg_X6_26 (pc := 1) hc rfl rfl dX6_right_1 ?_
  refine z_ald (pc := 4) hc 0 rfl dX6_right_4 ?_
  refine z_ild (pc := 5) hc 1 rfl dX6_right_5 ?_
  refine z_ald (pc := 6) hc 0 rfl dX6_right_6 ?_
  refine fg_X6_7 (pc := 7) hc rfl rfl dX6_right_7 ?_
  refine z_iconst (pc := 10) hc 1 dX6_right_10 ?_
  refine z_iald (pc := 11) hc rfl rfl rfl (by decide) (by omega) dX6_right_11 ?_
  refine z_idiv (pc := 12) hc (by omega) dX6_right_12 ?_
  refine z_ild (pc := 13) hc 1 rfl dX6_right_13 ?_
  refine z_ald (pc := 14) hc 0 rfl dX6_right_14 ?_
  refine fg_X6_7 (pc := 15) hc rfl rfl dX6_right_15 ?_
  refine z_iconst (pc := 18) hc 1 dX6_right_18 ?_
  refine z_iald (pc := 19) hc rfl rfl rfl (by decide) (by omega) dX6_right_19 ?_
  refine z_irem (pc := 20) hc (by omega) dX6_right_20 ?_
  refine kc_X6_104 (pc := 21) hc rfl (zfitX (by decide) rfl rfl) rfl (Nat.le_of_ble_eq_true rfl) (ct_X6_around M (by assumption) (k / (M 39 1)) (by omega) (k % (M 39 1)) (by omega)) dX6_right_21 ?_
  refine kc_X6_54 (pc := 24) hc rfl (zfit0 (by decide) rfl rfl) (Nat.le_of_ble_eq_true rfl) (ct_X6_reduced M (arT (tsZ (M 39)) (k / (M 39 1)) (k % (M 39 1))) (by first | omega | exact arT_bd _ _ _)) dX6_right_24 ?_
  refine z_iald (pc := 27) hc rfl rfl rfl (by decide) (by omega) dX6_right_27 ?_
  exact z_iret (pc := 28) hc he rfl dX6_right_28 (⟨congrArg some (hU.2 _ (by omega) (by omega)), rfl⟩)

set_option maxRecDepth 100000 in
set_option maxHeartbeats 4000000 in
theorem ct_X6_shapeAt (M : Mem) (hZ : zRf (M 39)) (hU : TbR M) (k : Int) (hk : 0 ≤ k ∧ k < M 39 0 * M 39 1)  : zCt yX6_shapeAt KX6_shapeAt [zR 38, zI k] M (fun zv zM => zv = some (saT (tsZ (M 39)) (k / M 39 1) (k % M 39 1)) ∧ zM = M) := by
  obtain ⟨hs1, hs2, hs3, hs4, hs5, hs6, hs7⟩ := id hZ
  have hw9 := zhw hs1 hs2 hs3 hs4
  have kx := zkx hk (by omega)
  have h7k := hs7 k (by omega) (by omega)
  refine z_met (by decide) rfl (Nat.le_of_ble_eq_true rfl) (fun X hc he => ?_)
  show zJW X 0 [(0, zR 38), (1, zI k)] [] M
  refine z_ald (pc := 0) hc 0 rfl dX6_shapeAt_0 ?_
  refine z_ild (pc := 1) hc 1 rfl dX6_shapeAt_1 ?_
  refine kc_X6_97 (pc := 2) hc rfl (zfitX (by decide) rfl rfl) rfl (Nat.le_of_ble_eq_true rfl) (ct_X6_isLandAt M (by assumption) k (by omega)) dX6_shapeAt_2 ?_
  refine z_bne (pc := 5) (tgt := 13) hc (by decide) dX6_shapeAt_5 (fun h5 => ?_) (fun h5 => ?_)
  · show zJW X 13 [(0, zR 38), (1, zI k)] [] M
    refine z_ald (pc := 13) hc 0 rfl dX6_shapeAt_13 ?_
    refine fg_X6_7 (pc := 14) hc rfl rfl dX6_shapeAt_14 ?_
    refine z_sipush (pc := 17) hc 147 (by decide) dX6_shapeAt_17 ?_
    refine z_ild (pc := 20) hc 1 rfl dX6_shapeAt_20 ?_
    refine z_iadd (pc := 21) hc dX6_shapeAt_21 ?_
    refine z_iald (pc := 22) hc rfl rfl rfl (by decide) (by omega) dX6_shapeAt_22 ?_
    refine z_bipush (pc := 23) hc (-6) (by decide) dX6_shapeAt_23 ?_
    refine z_ceq (pc := 25) (tgt := 41) hc (by omega) (by decide) dX6_shapeAt_25 (fun h25 => ?_) (fun h25 => ?_)
    · show zJW X 41 [(0, zR 38), (1, zI k)] [] M
      refine z_ald (pc := 41) hc 0 rfl dX6_shapeAt_41 ?_
      refine z_ild (pc := 42) hc 1 rfl dX6_shapeAt_42 ?_
      refine kc_X6_107 (pc := 43) hc rfl (zfitX (by decide) rfl rfl) rfl (Nat.le_of_ble_eq_true rfl) (ct_X6_right M (by assumption) (by assumption) k (by first | assumption | omega)) dX6_shapeAt_43 ?_
      exact z_iret (pc := 46) hc he rfl dX6_shapeAt_46 (by refine ⟨congrArg some ?_, rfl⟩; rw [saT, laT_k hZ hk, piT_k hZ hk]; first | (rw [h5]; rfl) | (rw [if_pos h5, if_neg h25, if_pos (by omega)]; done) | (rw [if_pos h5, if_pos h25]; rfl))
    · show zJW X 28 [(0, zR 38), (1, zI k)] [] M
      refine z_ald (pc := 28) hc 0 rfl dX6_shapeAt_28 ?_
      refine fg_X6_7 (pc := 29) hc rfl rfl dX6_shapeAt_29 ?_
      refine z_sipush (pc := 32) hc 147 (by decide) dX6_shapeAt_32 ?_
      refine z_ild (pc := 35) hc 1 rfl dX6_shapeAt_35 ?_
      refine z_iadd (pc := 36) hc dX6_shapeAt_36 ?_
      refine z_iald (pc := 37) hc rfl rfl rfl (by decide) (by omega) dX6_shapeAt_37 ?_
      refine z_goto (pc := 38) (tgt := 46) hc (by decide) dX6_shapeAt_38 ?_
      exact z_iret (pc := 46) hc he rfl dX6_shapeAt_46 (by refine ⟨congrArg some ?_, rfl⟩; rw [saT, laT_k hZ hk, piT_k hZ hk]; first | (rw [h5]; rfl) | (rw [if_pos h5, if_neg h25, if_pos (by omega)]; done) | (rw [if_pos h5, if_pos h25]; rfl))
  · show zJW X 8 [(0, zR 38), (1, zI k)] [] M
    refine z_bipush (pc := 8) hc (-6) (by decide) dX6_shapeAt_8 ?_
    refine z_goto (pc := 10) (tgt := 46) hc (by decide) dX6_shapeAt_10 ?_
    exact z_iret (pc := 46) hc he rfl dX6_shapeAt_46 (by refine ⟨congrArg some ?_, rfl⟩; rw [saT, laT_k hZ hk, piT_k hZ hk]; first | (rw [h5]; rfl) | (rw [if_pos h5, if_neg h25, if_pos (by omega)]; done) | (rw [if_pos h5, if_pos h25]; rfl))

set_option maxRecDepth 100000 in
set_option maxHeartbeats 4000000 in
theorem ct_X6_faultsAt (M : Mem) (hZ : zRf (M 39)) (hU : TbR M) (hO : TOk (tsZ (M 39))) (k : Int) (hk : 0 ≤ k ∧ k < M 39 0 * M 39 1)  : zCt yX6_faultsAt KX6_faultsAt [zR 38, zI k] M (fun zv zM => zv = some (faT (tsZ (M 39)) (k / M 39 1) (k % M 39 1)) ∧ zM = M) := by
  obtain ⟨hs1, hs2, hs3, hs4, hs5, hs6, hs7⟩ := id hZ
  have hw9 := zhw hs1 hs2 hs3 hs4
  have kx := zkx hk (by omega)
  have h7k := hs7 k (by omega) (by omega)
  have hp := hO.2.2.2.2 (k / M 39 1) (k % M 39 1)
  have ab := arT_bd (tsZ (M 39)) (k / M 39 1) (k % M 39 1)
  have rb := rdZ_bd ab
  have hr0 : 0 ≤ rsT (tsZ (M 39)) (k / M 39 1) (k % M 39 1) ∧ rsT (tsZ (M 39)) (k / M 39 1) (k % M 39 1) < 47 := ⟨rb.2.2.2.2.2.1, rb.2.2.2.2.2.2.1⟩
  refine z_met (by decide) rfl (Nat.le_of_ble_eq_true rfl) (fun X hc he => ?_)
  show zJW X 0 [(0, zR 38), (1, zI k)] [] M
  refine z_ald (pc := 0) hc 0 rfl dX6_faultsAt_0 ?_
  refine z_ild (pc := 1) hc 1 rfl dX6_faultsAt_1 ?_
  refine kc_X6_97 (pc := 2) hc rfl (zfitX (by decide) rfl rfl) rfl (Nat.le_of_ble_eq_true rfl) (ct_X6_isLandAt M (by assumption) k (by omega)) dX6_faultsAt_2 ?_
  refine z_beq (pc := 5) (tgt := 35) hc (by decide) dX6_faultsAt_5 (fun h5 => ?_) (fun h5 => ?_)
  · show zJW X 35 [(0, zR 38), (1, zI k)] [] M
    have hla : laT (tsZ (M 39)) (k / M 39 1) (k % M 39 1) = false := by rw [laT_k hZ hk]; exact h5
    refine z_iconst (pc := 35) hc 0 dX6_faultsAt_35 ?_
    exact z_iret (pc := 36) hc he rfl dX6_faultsAt_36 (by refine ⟨congrArg some ?_, rfl⟩; first | (rw [hU.1 _ hsa.1 hsa.2, hU.1 _ hr0.1 hr0.2]; exact faT_of hla) | (rw [faT, if_neg (fun h => by rw [hla] at hp; rcases hp with hp | hp; exact h hp; exact absurd hp.2.2 (by decide))]))
  · show zJW X 8 [(0, zR 38), (1, zI k)] [] M
    have hla : laT (tsZ (M 39)) (k / M 39 1) (k % M 39 1) = true := by rw [laT_k hZ hk]; exact h5
    have hsa : 0 ≤ saT (tsZ (M 39)) (k / M 39 1) (k % M 39 1) ∧ saT (tsZ (M 39)) (k / M 39 1) (k % M 39 1) < 47 := by
      rw [saT, if_pos hla]
      split <;> omega
    refine z_ald (pc := 8) hc 0 rfl dX6_faultsAt_8 ?_
    refine fg_X6_23 (pc := 9) hc rfl rfl dX6_faultsAt_9 ?_
    refine z_ald (pc := 12) hc 0 rfl dX6_faultsAt_12 ?_
    refine z_ild (pc := 13) hc 1 rfl dX6_faultsAt_13 ?_
    refine kc_X6_110 (pc := 14) hc rfl (zfitX (by decide) rfl rfl) rfl (Nat.le_of_ble_eq_true rfl) (ct_X6_shapeAt M (by assumption) (by assumption) k (by first | assumption | omega)) dX6_faultsAt_14 ?_
    refine z_iald (pc := 17) hc rfl rfl rfl (by decide) (by omega) dX6_faultsAt_17 ?_
    refine z_ald (pc := 18) hc 0 rfl dX6_faultsAt_18 ?_
    refine fg_X6_23 (pc := 19) hc rfl rfl dX6_faultsAt_19 ?_
    refine z_ald (pc := 22) hc 0 rfl dX6_faultsAt_22 ?_
    refine z_ild (pc := 23) hc 1 rfl dX6_faultsAt_23 ?_
    refine kc_X6_107 (pc := 24) hc rfl (zfitX (by decide) rfl rfl) rfl (Nat.le_of_ble_eq_true rfl) (ct_X6_right M (by assumption) (by assumption) k (by first | assumption | omega)) dX6_faultsAt_24 ?_
    refine z_iald (pc := 27) hc rfl rfl rfl (by decide) (by omega) dX6_faultsAt_27 ?_
    refine z_ixor (pc := 28) hc dX6_faultsAt_28 ?_
    refine kc_X6_113 (pc := 29) hc rfl (zfit0 (by decide) rfl rfl) (Nat.le_of_ble_eq_true rfl) (ct_X6_bits M (zxr (M 43 (saT (tsZ (M 39)) (k / M 39 1) (k % M 39 1))) (M 43 (rsT (tsZ (M 39)) (k / M 39 1) (k % M 39 1))))) dX6_faultsAt_29 ?_
    refine z_goto (pc := 32) (tgt := 36) hc (by decide) dX6_faultsAt_32 ?_
    exact z_iret (pc := 36) hc he rfl dX6_faultsAt_36 (by refine ⟨congrArg some ?_, rfl⟩; first | (rw [hU.1 _ hsa.1 hsa.2, hU.1 _ hr0.1 hr0.2]; exact faT_of hla) | (rw [faT, if_neg (fun h => by rw [hla] at hp; rcases hp with hp | hp; exact h hp; exact absurd hp.2.2 (by decide))]))

set_option maxRecDepth 100000 in
set_option maxHeartbeats 4000000 in
theorem ct_X6_told (M : Mem) (hZ : zRf (M 39)) (k : Int) (hk : 0 ≤ k ∧ k < M 39 0 * M 39 1)  : zCt yX6_told KX6_told [zR 38, zI k] M (fun zv zM => zv = some (100 * (k / M 39 1) + (k % M 39 1)) ∧ zM = M) := by
  obtain ⟨hs1, hs2, hs3, hs4, hs5, hs6, hs7⟩ := id hZ
  have hw9 := zhw hs1 hs2 hs3 hs4
  have kx := zkx hk (by omega)
  refine z_met (by decide) rfl (Nat.le_of_ble_eq_true rfl) (fun X hc he => ?_)
  show zJW X 0 [(0, zR 38), (1, zI k)] [] M
  refine z_bipush (pc := 0) hc 100 (by decide) dX6_told_0 ?_
  refine z_ild (pc := 2) hc 1 rfl dX6_told_2 ?_
  refine z_ald (pc := 3) hc 0 rfl dX6_told_3 ?_
  refine fg_X6_7 (pc := 4) hc rfl rfl dX6_told_4 ?_
  refine z_iconst (pc := 7) hc 1 dX6_told_7 ?_
  refine z_iald (pc := 8) hc rfl rfl rfl (by decide) (by omega) dX6_told_8 ?_
  refine z_idiv (pc := 9) hc (by omega) dX6_told_9 ?_
  refine z_imul (pc := 10) hc dX6_told_10 ?_
  refine z_ild (pc := 11) hc 1 rfl dX6_told_11 ?_
  refine z_ald (pc := 12) hc 0 rfl dX6_told_12 ?_
  refine fg_X6_7 (pc := 13) hc rfl rfl dX6_told_13 ?_
  refine z_iconst (pc := 16) hc 1 dX6_told_16 ?_
  refine z_iald (pc := 17) hc rfl rfl rfl (by decide) (by omega) dX6_told_17 ?_
  refine z_irem (pc := 18) hc (by omega) dX6_told_18 ?_
  refine z_iadd (pc := 19) hc dX6_told_19 ?_
  exact z_iret (pc := 20) hc he rfl dX6_told_20 (⟨rfl, rfl⟩)
