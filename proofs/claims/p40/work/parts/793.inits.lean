def zW3 (dA : Nat → ClassId) (b : Nat) (a : Nat → Nat) : va_W := [(b, .inr (3, [.int (iI 8), .int (iI 8), .int (iI 0), .ref (a 0), .ref (a 1)])), (a 0, .inl (dA 1, 144, .inl (fun _ => iI 0))), (a 1, .inl (dA 0, 144, .inl (fun j => iI (filM zM0 18 144 (-1) 18 j))))]

def zMS : Mem := fun k => cond (Nat.beq k 0) zini8 zini0
def zadS (b q1 q2 : Nat) : Nat → Nat := fun k => cond (Nat.beq k 0) b (cond (Nat.beq k 9) q1 q2)

set_option maxRecDepth 100000 in
set_option maxHeartbeats 8000000 in
theorem ct_X3_init : zNt yX3_init KX3_init 2 288 3 [.int (iI 0), .int (iI 0), .int (iI 0), .null, .null] zW3 := by
  refine g_met (by decide) rfl rfl rfl (by decide) (fun b X hc hE => ?_)
  show zJG X [(b, .inr (3, [.int (iI 0), .int (iI 0), .int (iI 0), .null, .null]))] (0, 0) 0 [(0, .ref b)] []
  refine g_ald hc 0 rfl dX3_init_0 ?_
  refine g_obj hc (List.mem_filter.mpr ⟨List.mem_of_getElem? (i := 57) (by decide +kernel), rfl⟩) (List.mem_filter.mpr ⟨List.mem_of_getElem? (i := 27) (by decide +kernel), rfl⟩) (List.mem_filter.mpr ⟨List.mem_of_getElem? (i := 28) (by decide +kernel), rfl⟩) (by decide) (Nat.le_of_ble_eq_true rfl) dX3_init_1 ?_
  refine g_ald hc 0 rfl dX3_init_4 ?_
  refine g_const hc 8 (Or.inr (Or.inl ⟨dX3_init_5, rfl, by decide⟩)) ?_
  refine g_put hc tyX3_ok nmX3 (ci := 3) rfl inX3 (j := 0) (by decide) (List.mem_filter.mpr ⟨List.mem_of_getElem? (i := 61) (by decide +kernel), rfl⟩) rfl rfl rfl rfl 0 rfl (Nat.le_of_ble_eq_true rfl) dX3_init_7 (zJG_eq (ws' := [(b, .inr (3, [.int (iI 8), .int (iI 0), .int (iI 0), .null, .null]))]) rfl ?_)
  refine g_ald hc 0 rfl dX3_init_10 ?_
  refine g_const hc 8 (Or.inr (Or.inl ⟨dX3_init_11, rfl, by decide⟩)) ?_
  refine g_put hc tyX3_ok nmX3 (ci := 3) rfl inX3 (j := 1) (by decide) (List.mem_filter.mpr ⟨List.mem_of_getElem? (i := 64) (by decide +kernel), rfl⟩) rfl rfl rfl rfl 0 rfl (Nat.le_of_ble_eq_true rfl) dX3_init_13 (zJG_eq (ws' := [(b, .inr (3, [.int (iI 8), .int (iI 8), .int (iI 0), .null, .null]))]) rfl ?_)
  refine g_ald hc 0 rfl dX3_init_16 ?_
  refine g_const hc 0 (Or.inl ⟨dX3_init_17, rfl⟩) ?_
  refine g_put hc tyX3_ok nmX3 (ci := 3) rfl inX3 (j := 2) (by decide) (List.mem_filter.mpr ⟨List.mem_of_getElem? (i := 67) (by decide +kernel), rfl⟩) rfl rfl rfl rfl 0 rfl (Nat.le_of_ble_eq_true rfl) dX3_init_18 (zJG_eq (ws' := [(b, .inr (3, [.int (iI 8), .int (iI 8), .int (iI 0), .null, .null]))]) rfl ?_)
  refine g_ald hc 0 rfl dX3_init_21 ?_
  refine g_const hc 144 (Or.inr (Or.inr ⟨dX3_init_22, rfl, by decide⟩)) ?_
  refine g_newa hc (t := 1) (ty := .boolean) (N := 144) rfl (Or.inr ⟨rfl, rfl⟩) (List.mem_filter.mpr ⟨List.mem_of_getElem? (i := 82) (by decide +kernel), rfl⟩) (by decide) (by decide) (by decide) ⟨Nat.le_of_ble_eq_true rfl, Nat.le_of_ble_eq_true rfl⟩ dX3_init_25 (fun q1 => zJG_eq (ws' := [(b, .inr (3, [.int (iI 8), .int (iI 8), .int (iI 0), .null, .null])), (q1, .inl (zdA X 1, 144, .inl (fun _ => iI 0)))]) rfl ?_)
  refine g_put hc tyX3_ok nmX3 (ci := 3) rfl inX3 (j := 3) (by decide) (List.mem_filter.mpr ⟨List.mem_of_getElem? (i := 69) (by decide +kernel), rfl⟩) rfl rfl rfl rfl 0 rfl (Nat.le_of_ble_eq_true rfl) dX3_init_27 (zJG_eq (ws' := [(b, .inr (3, [.int (iI 8), .int (iI 8), .int (iI 0), .ref q1, .null])), (q1, .inl (zdA X 1, 144, .inl (fun _ => iI 0)))]) rfl ?_)
  refine g_ald hc 0 rfl dX3_init_30 ?_
  refine g_const hc 144 (Or.inr (Or.inr ⟨dX3_init_31, rfl, by decide⟩)) ?_
  refine g_newa hc (t := 0) (ty := .int) (N := 144) rfl (Or.inl ⟨rfl, rfl⟩) (List.mem_filter.mpr ⟨List.mem_of_getElem? (i := 51) (by decide +kernel), rfl⟩) (by decide) (by decide) (by decide) ⟨Nat.le_of_ble_eq_true rfl, Nat.le_of_ble_eq_true rfl⟩ dX3_init_34 (fun q2 => zJG_eq (ws' := [(b, .inr (3, [.int (iI 8), .int (iI 8), .int (iI 0), .ref q1, .null])), (q1, .inl (zdA X 1, 144, .inl (fun _ => iI 0))), (q2, .inl (zdA X 0, 144, .inl (fun _ => iI 0)))]) rfl ?_)
  refine g_put hc tyX3_ok nmX3 (ci := 3) rfl inX3 (j := 4) (by decide) (List.mem_filter.mpr ⟨List.mem_of_getElem? (i := 70) (by decide +kernel), rfl⟩) rfl rfl rfl rfl 0 rfl (Nat.le_of_ble_eq_true rfl) dX3_init_36 (zJG_eq (ws' := [(b, .inr (3, [.int (iI 8), .int (iI 8), .int (iI 0), .ref q1, .ref q2])), (q1, .inl (zdA X 1, 144, .inl (fun _ => iI 0))), (q2, .inl (zdA X 0, 144, .inl (fun _ => iI 0)))]) rfl ?_)
  refine g_toM hc [0, 9, 18] (zadS b q1 q2) (M := zMS) (mlv := [(0, zR 0)]) (mst := []) rfl (by decide) (fun k hk => ?_) rfl (by decide) rfl rfl (fun hcx => ?_)
  · have hk : (decide (k = 0) || (decide (k = 9) || decide (k = 18))) = true := hk
    simp only [Bool.or_eq_true, decide_eq_true_eq] at hk
    rcases hk with rfl | rfl | rfl <;> decide
  refine z_ald (pc := 39) hcx 0 rfl dX3_init_39 ?_
  refine z_get (pc := 40) (k := 0) (j := 4) (o := some 18) hcx rfl (ztm_st (by decide)) rfl (by rfl) inX3 (by decide) (List.mem_filter.mpr ⟨List.mem_of_getElem? (i := 70) (by decide +kernel), rfl⟩) dX3_init_40 ?_
  refine z_iconst (pc := 43) hcx (-1) dX3_init_43 ?_
  refine kc_X3_30 (pc := 44) (M := zMS) (v := -1) hcx (by decide) dX3_init_44 ?_
  refine g_toG hcx ?_
  refine g_ret hc hE (fun i => cond (Nat.beq i 0) q1 q2) [0, 1, 2] (by decide) rfl rfl (by decide) dX3_init_47

def zW2 (dA : Nat → ClassId) (b : Nat) (a : Nat → Nat) : va_W := zWo [33, 34, 35] (zb 33 b a) dA zMX

set_option maxRecDepth 100000 in
set_option maxHeartbeats 8000000 in
theorem ct_X2_init : zNt yX2_init KX2_init 2 288 2 [.null, .null, .int (iI 0), .int (iI 0)] zW2 := by
  refine g_met (by decide) rfl rfl rfl (by decide) (fun b X hc hE => ?_)
  show zJG X [(b, .inr (2, [.null, .null, .int (iI 0), .int (iI 0)]))] (0, 0) 0 [(0, .ref b)] []
  refine g_ald hc 0 rfl dX2_init_0 ?_
  refine g_obj hc (List.mem_filter.mpr ⟨List.mem_of_getElem? (i := 104) (by decide +kernel), rfl⟩) (List.mem_filter.mpr ⟨List.mem_of_getElem? (i := 27) (by decide +kernel), rfl⟩) (List.mem_filter.mpr ⟨List.mem_of_getElem? (i := 28) (by decide +kernel), rfl⟩) (by decide) (Nat.le_of_ble_eq_true rfl) dX2_init_1 ?_
  refine g_ald hc 0 rfl dX2_init_4 ?_
  refine g_const hc 144 (Or.inr (Or.inr ⟨dX2_init_5, rfl, by decide⟩)) ?_
  refine g_newa hc (t := 0) (ty := .int) (N := 144) rfl (Or.inl ⟨rfl, rfl⟩) (List.mem_filter.mpr ⟨List.mem_of_getElem? (i := 51) (by decide +kernel), rfl⟩) (by decide) (by decide) (by decide) ⟨Nat.le_of_ble_eq_true rfl, Nat.le_of_ble_eq_true rfl⟩ dX2_init_8 (fun q1 => zJG_eq (ws' := [(b, .inr (2, [.null, .null, .int (iI 0), .int (iI 0)])), (q1, .inl (zdA X 0, 144, .inl (fun _ => iI 0)))]) rfl ?_)
  refine g_put hc tyX2_ok nmX2 (ci := 2) rfl inX2 (j := 0) (by decide) (List.mem_filter.mpr ⟨List.mem_of_getElem? (i := 105) (by decide +kernel), rfl⟩) rfl rfl rfl rfl 0 rfl (Nat.le_of_ble_eq_true rfl) dX2_init_10 (zJG_eq (ws' := [(b, .inr (2, [.ref q1, .null, .int (iI 0), .int (iI 0)])), (q1, .inl (zdA X 0, 144, .inl (fun _ => iI 0)))]) rfl ?_)
  refine g_ald hc 0 rfl dX2_init_13 ?_
  refine g_const hc 144 (Or.inr (Or.inr ⟨dX2_init_14, rfl, by decide⟩)) ?_
  refine g_newa hc (t := 0) (ty := .int) (N := 144) rfl (Or.inl ⟨rfl, rfl⟩) (List.mem_filter.mpr ⟨List.mem_of_getElem? (i := 51) (by decide +kernel), rfl⟩) (by decide) (by decide) (by decide) ⟨Nat.le_of_ble_eq_true rfl, Nat.le_of_ble_eq_true rfl⟩ dX2_init_17 (fun q2 => zJG_eq (ws' := [(b, .inr (2, [.ref q1, .null, .int (iI 0), .int (iI 0)])), (q1, .inl (zdA X 0, 144, .inl (fun _ => iI 0))), (q2, .inl (zdA X 0, 144, .inl (fun _ => iI 0)))]) rfl ?_)
  refine g_put hc tyX2_ok nmX2 (ci := 2) rfl inX2 (j := 1) (by decide) (List.mem_filter.mpr ⟨List.mem_of_getElem? (i := 106) (by decide +kernel), rfl⟩) rfl rfl rfl rfl 0 rfl (Nat.le_of_ble_eq_true rfl) dX2_init_19 (zJG_eq (ws' := [(b, .inr (2, [.ref q1, .ref q2, .int (iI 0), .int (iI 0)])), (q1, .inl (zdA X 0, 144, .inl (fun _ => iI 0))), (q2, .inl (zdA X 0, 144, .inl (fun _ => iI 0)))]) rfl ?_)
  refine g_ald hc 0 rfl dX2_init_22 ?_
  refine g_const hc 0 (Or.inl ⟨dX2_init_23, rfl⟩) ?_
  refine g_put hc tyX2_ok nmX2 (ci := 2) rfl inX2 (j := 2) (by decide) (List.mem_filter.mpr ⟨List.mem_of_getElem? (i := 107) (by decide +kernel), rfl⟩) rfl rfl rfl rfl 0 rfl (Nat.le_of_ble_eq_true rfl) dX2_init_24 (zJG_eq (ws' := [(b, .inr (2, [.ref q1, .ref q2, .int (iI 0), .int (iI 0)])), (q1, .inl (zdA X 0, 144, .inl (fun _ => iI 0))), (q2, .inl (zdA X 0, 144, .inl (fun _ => iI 0)))]) rfl ?_)
  refine g_ald hc 0 rfl dX2_init_27 ?_
  refine g_const hc 0 (Or.inl ⟨dX2_init_28, rfl⟩) ?_
  refine g_put hc tyX2_ok nmX2 (ci := 2) rfl inX2 (j := 3) (by decide) (List.mem_filter.mpr ⟨List.mem_of_getElem? (i := 109) (by decide +kernel), rfl⟩) rfl rfl rfl rfl 0 rfl (Nat.le_of_ble_eq_true rfl) dX2_init_29 (zJG_eq (ws' := [(b, .inr (2, [.ref q1, .ref q2, .int (iI 0), .int (iI 0)])), (q1, .inl (zdA X 0, 144, .inl (fun _ => iI 0))), (q2, .inl (zdA X 0, 144, .inl (fun _ => iI 0)))]) rfl ?_)
  exact g_ret hc hE (fun k => (cond (Nat.beq k 34) q1 (cond (Nat.beq k 35) q2 0))) [0, 1, 2] (by decide) rfl rfl (by decide) dX2_init_32

def zW1 (dA : Nat → ClassId) (b : Nat) (a : Nat → Nat) : va_W := zWo [28, 29, 30] (zb 28 b a) dA zMX

set_option maxRecDepth 100000 in
set_option maxHeartbeats 8000000 in
theorem ct_X1_init : zNt yX1_init KX1_init 2 303 1 [.null, .null] zW1 := by
  refine g_met (by decide) rfl rfl rfl (by decide) (fun b X hc hE => ?_)
  show zJG X [(b, .inr (1, [.null, .null]))] (0, 0) 0 [(0, .ref b)] []
  refine g_ald hc 0 rfl dX1_init_0 ?_
  refine g_obj hc (List.mem_filter.mpr ⟨List.mem_of_getElem? (i := 34) (by decide +kernel), rfl⟩) (List.mem_filter.mpr ⟨List.mem_of_getElem? (i := 27) (by decide +kernel), rfl⟩) (List.mem_filter.mpr ⟨List.mem_of_getElem? (i := 28) (by decide +kernel), rfl⟩) (by decide) (Nat.le_of_ble_eq_true rfl) dX1_init_1 ?_
  refine g_ald hc 0 rfl dX1_init_4 ?_
  refine g_const hc 47 (Or.inr (Or.inl ⟨dX1_init_5, rfl, by decide⟩)) ?_
  refine g_newa hc (t := 0) (ty := .int) (N := 47) rfl (Or.inl ⟨rfl, rfl⟩) (List.mem_filter.mpr ⟨List.mem_of_getElem? (i := 51) (by decide +kernel), rfl⟩) (by decide) (by decide) (by decide) ⟨Nat.le_of_ble_eq_true rfl, Nat.le_of_ble_eq_true rfl⟩ dX1_init_7 (fun q1 => zJG_eq (ws' := [(b, .inr (1, [.null, .null])), (q1, .inl (zdA X 0, 47, .inl (fun _ => iI 0)))]) rfl ?_)
  refine g_put hc tyX1_ok nmX1 (ci := 1) rfl inX1 (j := 0) (by decide) (List.mem_filter.mpr ⟨List.mem_of_getElem? (i := 44) (by decide +kernel), rfl⟩) rfl rfl rfl rfl 0 rfl (Nat.le_of_ble_eq_true rfl) dX1_init_9 (zJG_eq (ws' := [(b, .inr (1, [.ref q1, .null])), (q1, .inl (zdA X 0, 47, .inl (fun _ => iI 0)))]) rfl ?_)
  refine g_ald hc 0 rfl dX1_init_12 ?_
  refine g_const hc 256 (Or.inr (Or.inr ⟨dX1_init_13, rfl, by decide⟩)) ?_
  refine g_newa hc (t := 0) (ty := .int) (N := 256) rfl (Or.inl ⟨rfl, rfl⟩) (List.mem_filter.mpr ⟨List.mem_of_getElem? (i := 51) (by decide +kernel), rfl⟩) (by decide) (by decide) (by decide) ⟨Nat.le_of_ble_eq_true rfl, Nat.le_of_ble_eq_true rfl⟩ dX1_init_16 (fun q2 => zJG_eq (ws' := [(b, .inr (1, [.ref q1, .null])), (q1, .inl (zdA X 0, 47, .inl (fun _ => iI 0))), (q2, .inl (zdA X 0, 256, .inl (fun _ => iI 0)))]) rfl ?_)
  refine g_put hc tyX1_ok nmX1 (ci := 1) rfl inX1 (j := 1) (by decide) (List.mem_filter.mpr ⟨List.mem_of_getElem? (i := 45) (by decide +kernel), rfl⟩) rfl rfl rfl rfl 0 rfl (Nat.le_of_ble_eq_true rfl) dX1_init_18 (zJG_eq (ws' := [(b, .inr (1, [.ref q1, .ref q2])), (q1, .inl (zdA X 0, 47, .inl (fun _ => iI 0))), (q2, .inl (zdA X 0, 256, .inl (fun _ => iI 0)))]) rfl ?_)
  refine g_const hc 0 (Or.inl ⟨dX1_init_21, rfl⟩) ?_
  refine g_ist hc (lv' := [(1, .int (iI 0)), (0, .ref b)]) rfl (by decide) dX1_init_22 ?_
  refine g_const hc 0 (Or.inl ⟨dX1_init_23, rfl⟩) ?_
  refine g_ist hc (lv' := [(2, .int (iI 0)), (1, .int (iI 0)), (0, .ref b)]) rfl (by decide) dX1_init_24 ?_
  refine g_toM hc [28, 29, 30] (zb 28 b (fun k => cond (Nat.beq k 29) q1 q2)) (M := zM0) (mlv := [(2, zI 0), (1, zI 0), (0, zR 28)]) (mst := []) rfl (by decide) (fun k hk => ?_) rfl (by decide) rfl rfl (fun hcx => ?_)
  · have hk : (decide (k = 28) || (decide (k = 29) || decide (k = 30))) = true := hk
    simp only [Bool.or_eq_true, decide_eq_true_eq] at hk
    rcases hk with rfl | rfl | rfl <;> decide
  refine zX1_loop hcx (g_toG hcx ?_)
  exact g_ret hc hE (fun k => cond (Nat.beq k 29) q1 q2) [0, 1, 2] (by decide) rfl rfl (by decide) dX1_init_80

def zW4 (dA : Nat → ClassId) (b : Nat) (a : Nat → Nat) : va_W := zWo [36, 37, 8, 17, 26] (zb 36 b a) dA zMX

set_option maxRecDepth 100000 in
set_option maxHeartbeats 8000000 in
theorem ct_X4_init : zNt yX4_init KX4_init 4 373 4 [.null, .int (iI 0), .null, .int (iI 0), .int (iI 0), .int (iI 0), .int (iI 0)] zW4 := by
  refine g_met (by decide) rfl rfl rfl (by decide) (fun b X hc hE => ?_)
  show zJG X [(b, .inr (4, [.null, .int (iI 0), .null, .int (iI 0), .int (iI 0), .int (iI 0), .int (iI 0)]))] (0, 0) 0 [(0, .ref b)] []
  refine g_ald hc 0 rfl dX4_init_0 ?_
  refine g_obj hc (List.mem_filter.mpr ⟨List.mem_of_getElem? (i := 125) (by decide +kernel), rfl⟩) (List.mem_filter.mpr ⟨List.mem_of_getElem? (i := 27) (by decide +kernel), rfl⟩) (List.mem_filter.mpr ⟨List.mem_of_getElem? (i := 28) (by decide +kernel), rfl⟩) (by decide) (Nat.le_of_ble_eq_true rfl) dX4_init_1 ?_
  refine g_ald hc 0 rfl dX4_init_4 ?_
  refine g_const hc 80 (Or.inr (Or.inl ⟨dX4_init_5, rfl, by decide⟩)) ?_
  refine g_newa hc (t := 0) (ty := .int) (N := 80) rfl (Or.inl ⟨rfl, rfl⟩) (List.mem_filter.mpr ⟨List.mem_of_getElem? (i := 51) (by decide +kernel), rfl⟩) (by decide) (by decide) (by decide) ⟨Nat.le_of_ble_eq_true rfl, Nat.le_of_ble_eq_true rfl⟩ dX4_init_7 (fun q1 => zJG_eq (ws' := [(b, .inr (4, [.null, .int (iI 0), .null, .int (iI 0), .int (iI 0), .int (iI 0), .int (iI 0)])), (q1, .inl (zdA X 0, 80, .inl (fun _ => iI 0)))]) rfl ?_)
  refine g_put hc tyX4_ok nmX4 (ci := 4) rfl inX4 (j := 0) (by decide) (List.mem_filter.mpr ⟨List.mem_of_getElem? (i := 128) (by decide +kernel), rfl⟩) rfl rfl rfl rfl 0 rfl (Nat.le_of_ble_eq_true rfl) dX4_init_9 (zJG_eq (ws' := [(b, .inr (4, [.ref q1, .int (iI 0), .null, .int (iI 0), .int (iI 0), .int (iI 0), .int (iI 0)])), (q1, .inl (zdA X 0, 80, .inl (fun _ => iI 0)))]) rfl ?_)
  refine g_ald hc 0 rfl dX4_init_12 ?_
  refine g_const hc 0 (Or.inl ⟨dX4_init_13, rfl⟩) ?_
  refine g_put hc tyX4_ok nmX4 (ci := 4) rfl inX4 (j := 1) (by decide) (List.mem_filter.mpr ⟨List.mem_of_getElem? (i := 129) (by decide +kernel), rfl⟩) rfl rfl rfl rfl 0 rfl (Nat.le_of_ble_eq_true rfl) dX4_init_14 (zJG_eq (ws' := [(b, .inr (4, [.ref q1, .int (iI 0), .null, .int (iI 0), .int (iI 0), .int (iI 0), .int (iI 0)])), (q1, .inl (zdA X 0, 80, .inl (fun _ => iI 0)))]) rfl ?_)
  refine g_ald hc 0 rfl dX4_init_17 ?_
  refine g_new hc inX3 tyX3 tyX3_ok (List.mem_filter.mpr ⟨List.mem_of_getElem? (i := 126) (by decide +kernel), rfl⟩) (List.mem_filter.mpr ⟨List.mem_of_getElem? (i := 53) (by decide +kernel), rfl⟩) (List.mem_filter.mpr ⟨List.mem_of_getElem? (i := 14) (by decide +kernel), rfl⟩) (ci := 3) rfl (fs := [.int (iI 0), .int (iI 0), .int (iI 0), .null, .null]) (fun j hj => match j, hj with | 0, _ => rfl | 1, _ => rfl | 2, _ => rfl | 3, _ => rfl | 4, _ => rfl | _ + 5, h => absurd h (by omega)) ⟨Nat.le_of_ble_eq_true rfl, Nat.le_of_ble_eq_true rfl⟩ dX4_init_18 (fun q2 => zJG_eq (ws' := [(b, .inr (4, [.ref q1, .int (iI 0), .null, .int (iI 0), .int (iI 0), .int (iI 0), .int (iI 0)])), (q1, .inl (zdA X 0, 80, .inl (fun _ => iI 0))), (q2, .inr (3, [.int (iI 0), .int (iI 0), .int (iI 0), .null, .null]))]) rfl ?_)
  refine g_dup hc dX4_init_21 ?_
  refine g_call hc ct_X3_init ok_X3_init rfl (by decide) (List.mem_filter.mpr ⟨List.mem_of_getElem? (i := 127) (by decide +kernel), rfl⟩) (List.mem_filter.mpr ⟨List.mem_of_getElem? (i := 55) (by decide +kernel), rfl⟩) rfl 2 rfl [0, 1] (by decide) (by decide) (wr := [(b, .inr (4, [.ref q1, .int (iI 0), .null, .int (iI 0), .int (iI 0), .int (iI 0), .int (iI 0)])), (q1, .inl (zdA X 0, 80, .inl (fun _ => iI 0)))]) rfl (Nat.le_of_ble_eq_true rfl) ⟨Nat.le_of_ble_eq_true rfl, Nat.le_of_ble_eq_true rfl⟩ dX4_init_22 (fun a3 => zJG_eq (ws' := [(b, .inr (4, [.ref q1, .int (iI 0), .null, .int (iI 0), .int (iI 0), .int (iI 0), .int (iI 0)])), (q1, .inl (zdA X 0, 80, .inl (fun _ => iI 0))), (q2, .inr (3, [.int (iI 8), .int (iI 8), .int (iI 0), .ref (a3 0), .ref (a3 1)])), (a3 0, .inl (zdA X 1, 144, .inl (fun _ => iI 0))), (a3 1, .inl (zdA X 0, 144, .inl (fun j => iI (filM zM0 18 144 (-1) 18 j))))]) rfl ?_)
  refine g_put hc tyX4_ok nmX4 (ci := 4) rfl inX4 (j := 2) (by decide) (List.mem_filter.mpr ⟨List.mem_of_getElem? (i := 130) (by decide +kernel), rfl⟩) rfl rfl rfl rfl 0 rfl (Nat.le_of_ble_eq_true rfl) dX4_init_25 (zJG_eq (ws' := [(b, .inr (4, [.ref q1, .int (iI 0), .ref q2, .int (iI 0), .int (iI 0), .int (iI 0), .int (iI 0)])), (q1, .inl (zdA X 0, 80, .inl (fun _ => iI 0))), (q2, .inr (3, [.int (iI 8), .int (iI 8), .int (iI 0), .ref (a3 0), .ref (a3 1)])), (a3 0, .inl (zdA X 1, 144, .inl (fun _ => iI 0))), (a3 1, .inl (zdA X 0, 144, .inl (fun j => iI (filM zM0 18 144 (-1) 18 j))))]) rfl ?_)
  refine g_ald hc 0 rfl dX4_init_28 ?_
  refine g_const hc 0 (Or.inl ⟨dX4_init_29, rfl⟩) ?_
  refine g_put hc tyX4_ok nmX4 (ci := 4) rfl inX4 (j := 3) (by decide) (List.mem_filter.mpr ⟨List.mem_of_getElem? (i := 131) (by decide +kernel), rfl⟩) rfl rfl rfl rfl 0 rfl (Nat.le_of_ble_eq_true rfl) dX4_init_30 (zJG_eq (ws' := [(b, .inr (4, [.ref q1, .int (iI 0), .ref q2, .int (iI 0), .int (iI 0), .int (iI 0), .int (iI 0)])), (q1, .inl (zdA X 0, 80, .inl (fun _ => iI 0))), (q2, .inr (3, [.int (iI 8), .int (iI 8), .int (iI 0), .ref (a3 0), .ref (a3 1)])), (a3 0, .inl (zdA X 1, 144, .inl (fun _ => iI 0))), (a3 1, .inl (zdA X 0, 144, .inl (fun j => iI (filM zM0 18 144 (-1) 18 j))))]) rfl ?_)
  refine g_ald hc 0 rfl dX4_init_33 ?_
  refine g_const hc 0 (Or.inl ⟨dX4_init_34, rfl⟩) ?_
  refine g_put hc tyX4_ok nmX4 (ci := 4) rfl inX4 (j := 4) (by decide) (List.mem_filter.mpr ⟨List.mem_of_getElem? (i := 132) (by decide +kernel), rfl⟩) rfl rfl rfl rfl 0 rfl (Nat.le_of_ble_eq_true rfl) dX4_init_35 (zJG_eq (ws' := [(b, .inr (4, [.ref q1, .int (iI 0), .ref q2, .int (iI 0), .int (iI 0), .int (iI 0), .int (iI 0)])), (q1, .inl (zdA X 0, 80, .inl (fun _ => iI 0))), (q2, .inr (3, [.int (iI 8), .int (iI 8), .int (iI 0), .ref (a3 0), .ref (a3 1)])), (a3 0, .inl (zdA X 1, 144, .inl (fun _ => iI 0))), (a3 1, .inl (zdA X 0, 144, .inl (fun j => iI (filM zM0 18 144 (-1) 18 j))))]) rfl ?_)
  refine g_ald hc 0 rfl dX4_init_38 ?_
  refine g_const hc 0 (Or.inl ⟨dX4_init_39, rfl⟩) ?_
  refine g_put hc tyX4_ok nmX4 (ci := 4) rfl inX4 (j := 5) (by decide) (List.mem_filter.mpr ⟨List.mem_of_getElem? (i := 133) (by decide +kernel), rfl⟩) rfl rfl rfl rfl 0 rfl (Nat.le_of_ble_eq_true rfl) dX4_init_40 (zJG_eq (ws' := [(b, .inr (4, [.ref q1, .int (iI 0), .ref q2, .int (iI 0), .int (iI 0), .int (iI 0), .int (iI 0)])), (q1, .inl (zdA X 0, 80, .inl (fun _ => iI 0))), (q2, .inr (3, [.int (iI 8), .int (iI 8), .int (iI 0), .ref (a3 0), .ref (a3 1)])), (a3 0, .inl (zdA X 1, 144, .inl (fun _ => iI 0))), (a3 1, .inl (zdA X 0, 144, .inl (fun j => iI (filM zM0 18 144 (-1) 18 j))))]) rfl ?_)
  refine g_ald hc 0 rfl dX4_init_43 ?_
  refine g_const hc 0 (Or.inl ⟨dX4_init_44, rfl⟩) ?_
  refine g_put hc tyX4_ok nmX4 (ci := 4) rfl inX4 (j := 6) (by decide) (List.mem_filter.mpr ⟨List.mem_of_getElem? (i := 134) (by decide +kernel), rfl⟩) rfl rfl rfl rfl 0 rfl (Nat.le_of_ble_eq_true rfl) dX4_init_45 (zJG_eq (ws' := [(b, .inr (4, [.ref q1, .int (iI 0), .ref q2, .int (iI 0), .int (iI 0), .int (iI 0), .int (iI 0)])), (q1, .inl (zdA X 0, 80, .inl (fun _ => iI 0))), (q2, .inr (3, [.int (iI 8), .int (iI 8), .int (iI 0), .ref (a3 0), .ref (a3 1)])), (a3 0, .inl (zdA X 1, 144, .inl (fun _ => iI 0))), (a3 1, .inl (zdA X 0, 144, .inl (fun j => iI (filM zM0 18 144 (-1) 18 j))))]) rfl ?_)
  exact g_ret hc hE (fun k => (cond (Nat.beq k 37) q1 (cond (Nat.beq k 8) q2 (cond (Nat.beq k 17) (a3 0) (cond (Nat.beq k 26) (a3 1) 0))))) [0, 1, 2, 3, 4] (by decide) rfl rfl (by decide) dX4_init_48
