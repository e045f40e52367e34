set_option maxRecDepth 100000 in
set_option maxHeartbeats 4000000 in
theorem ct_L_low (M : Mem) (v n : Int) (hn : 0 < n ∧ n < 2147483648) : zCt yL_low KL_low [zI v, zI n] M (fun zv zM => zv = some (zan v 2147483647 % n) ∧ zM = M) := by
  have hv := zan_bd v (m := 2147483647) (by omega)
  refine z_met (by decide) rfl (Nat.le_of_ble_eq_true rfl) (fun X hc he => ?_)
  show zJW X 0 [(0, zI v), (1, zI n)] [] M
  refine z_ild (pc := 0) hc 0 rfl dL_low_0 ?_
  refine z_ldc (pc := 1) hc 2147483647 (List.mem_filter.mpr ⟨List.mem_of_getElem? (i := 374) (by decide +kernel), rfl⟩) dL_low_1 ?_
  refine z_iand (pc := 3) hc dL_low_3 ?_
  refine z_ild (pc := 4) hc 1 rfl dL_low_4 ?_
  refine z_irem (pc := 5) hc (by omega) dL_low_5 ?_
  exact z_iret (pc := 6) hc he rfl dL_low_6 (⟨rfl, rfl⟩)

set_option maxRecDepth 100000 in
set_option maxHeartbeats 4000000 in
theorem ct_L_land (M : Mem) (a : Nat) (ha : a = 38 ∨ a = 41) (r c : Int) (hr : -1 ≤ r ∧ r < 13) : zCt yL_land (KL_land a) [zR a, zI r, zI c] M (fun zv zM => zv = some (laZ (M a) r c) ∧ zM = M) := by
  refine z_met (by decide) rfl (Nat.le_of_ble_eq_true rfl) (fun X hc he => ?_)
  show zJW X 0 [(0, zR a), (1, zI r), (2, zI c)] [] M
  refine z_ald (pc := 0) hc 0 rfl dL_land_0 ?_
  refine z_ild (pc := 1) hc 1 rfl dL_land_1 ?_
  refine z_iconst (pc := 2) hc 1 dL_land_2 ?_
  refine z_iadd (pc := 3) hc dL_land_3 ?_
  refine z_iald (pc := 4) hc (by simp) (ztm_fr ha) (zar_fr ha) (by decide) (by omega) dL_land_4 ?_
  refine z_ild (pc := 5) hc 2 rfl dL_land_5 ?_
  refine z_iconst (pc := 6) hc 1 dL_land_6 ?_
  refine z_iadd (pc := 7) hc dL_land_7 ?_
  refine z_ishr (pc := 8) hc dL_land_8 ?_
  refine z_iconst (pc := 9) hc 1 dL_land_9 ?_
  refine z_iand (pc := 10) hc dL_land_10 ?_
  exact z_iret (pc := 11) hc he rfl dL_land_11 (⟨rfl, rfl⟩)

theorem ct_L_landT (M : Mem) (a : Nat) (ha : a = 38 ∨ a = 41) (t : TS) (hF : p4F (M a) t) (hO : TOk t) (r c : Int) (hr : -1 ≤ r ∧ r ≤ tH t ∧ -1 ≤ c ∧ c ≤ tW t) : zCt yL_land (KL_land a) [zR a, zI r, zI c] M (fun zv zM => zv = some (zbz (laT t r c)) ∧ zM = M) := by
  have h := ct_L_land M a ha r c (by obtain ⟨h1, h2, h3, h4, h5⟩ := hO; omega)
  rw [hF r c hr.1 hr.2.1 hr.2.2.1 hr.2.2.2] at h
  exact h

set_option maxRecDepth 100000 in
set_option maxHeartbeats 4000000 in
theorem ct_L_pin (M : Mem) (b : Nat) (hb : b = 39 ∨ b = 42) (r c : Int) (hr : 0 ≤ r ∧ r < 12) (hc0 : 0 ≤ c ∧ c < 12) : zCt yL_pin (KL_pin b) [zR b, zI r, zI c] M (fun zv zM => zv = some (piZ (M b) r c) ∧ zM = M) := by
  refine z_met (by decide) rfl (Nat.le_of_ble_eq_true rfl) (fun X hc he => ?_)
  show zJW X 0 [(0, zR b), (1, zI r), (2, zI c)] [] M
  refine z_ald (pc := 0) hc 0 rfl dL_pin_0 ?_
  refine z_iconst (pc := 1) hc 3 dL_pin_1 ?_
  refine z_ild (pc := 2) hc 1 rfl dL_pin_2 ?_
  refine z_imul (pc := 3) hc dL_pin_3 ?_
  refine z_ild (pc := 4) hc 2 rfl dL_pin_4 ?_
  refine z_iconst (pc := 5) hc 4 dL_pin_5 ?_
  refine z_idiv (pc := 6) hc (by omega) dL_pin_6 ?_
  refine z_iadd (pc := 7) hc dL_pin_7 ?_
  refine z_iald (pc := 8) hc (by simp) (ztm_pn hb) (zar_pn hb) (by decide) (by omega) dL_pin_8 ?_
  refine z_bipush (pc := 9) hc 6 (by decide) dL_pin_9 ?_
  refine z_ild (pc := 11) hc 2 rfl dL_pin_11 ?_
  refine z_iconst (pc := 12) hc 4 dL_pin_12 ?_
  refine z_irem (pc := 13) hc (by omega) dL_pin_13 ?_
  refine z_imul (pc := 14) hc dL_pin_14 ?_
  refine z_ishr (pc := 15) hc dL_pin_15 ?_
  refine z_bipush (pc := 16) hc 63 (by decide) dL_pin_16 ?_
  refine z_iand (pc := 18) hc dL_pin_18 ?_
  exact z_iret (pc := 19) hc he rfl dL_pin_19 (⟨rfl, rfl⟩)

theorem ct_L_pinT (M : Mem) (b : Nat) (hb : b = 39 ∨ b = 42) (t : TS) (hP : p4P (M b) t) (hO : TOk t) (r c : Int) (hi : inT t r c = true) : zCt yL_pin (KL_pin b) [zR b, zI r, zI c] M (fun zv zM => zv = some (pcT t r c) ∧ zM = M) := by
  have hib := inT_bd hi
  have h := ct_L_pin M b hb r c (by obtain ⟨h1, h2, h3, h4, h5⟩ := hO; omega) (by obtain ⟨h1, h2, h3, h4, h5⟩ := hO; omega)
  rw [hP r c hi] at h
  exact h

set_option maxRecDepth 100000 in
set_option maxHeartbeats 4000000 in
theorem ct_L_lay (M : Mem) (a : Nat) (ha : a = 38 ∨ a = 41) (r c v : Int) (hr : -1 ≤ r ∧ r < 13) : zCt yL_lay (KL_lay a) [zR a, zI r, zI c, zI v] M (fun zv zM => zv = none ∧ zM = zup M a (r + 1) (lyV (M a (r + 1)) c v)) := by
  refine z_met (by decide) rfl (Nat.le_of_ble_eq_true rfl) (fun X hc he => ?_)
  show zJW X 0 [(0, zR a), (1, zI r), (2, zI c), (3, zI v)] [] M
  refine z_ald (pc := 0) hc 0 rfl dL_lay_0 ?_
  refine z_ild (pc := 1) hc 1 rfl dL_lay_1 ?_
  refine z_iconst (pc := 2) hc 1 dL_lay_2 ?_
  refine z_iadd (pc := 3) hc dL_lay_3 ?_
  refine z_ald (pc := 4) hc 0 rfl dL_lay_4 ?_
  refine z_ild (pc := 5) hc 1 rfl dL_lay_5 ?_
  refine z_iconst (pc := 6) hc 1 dL_lay_6 ?_
  refine z_iadd (pc := 7) hc dL_lay_7 ?_
  refine z_iald (pc := 8) hc (by simp) (ztm_fr ha) (zar_fr ha) (by decide) (by omega) dL_lay_8 ?_
  refine z_iconst (pc := 9) hc 1 dL_lay_9 ?_
  refine z_ild (pc := 10) hc 2 rfl dL_lay_10 ?_
  refine z_iconst (pc := 11) hc 1 dL_lay_11 ?_
  refine z_iadd (pc := 12) hc dL_lay_12 ?_
  refine z_ishl (pc := 13) hc dL_lay_13 ?_
  refine z_iconst (pc := 14) hc (-1) dL_lay_14 ?_
  refine z_ixor (pc := 15) hc dL_lay_15 ?_
  refine z_iand (pc := 16) hc dL_lay_16 ?_
  refine z_ild (pc := 17) hc 3 rfl dL_lay_17 ?_
  refine z_ild (pc := 18) hc 2 rfl dL_lay_18 ?_
  refine z_iconst (pc := 19) hc 1 dL_lay_19 ?_
  refine z_iadd (pc := 20) hc dL_lay_20 ?_
  refine z_ishl (pc := 21) hc dL_lay_21 ?_
  refine z_ior (pc := 22) hc dL_lay_22 ?_
  refine z_iast (pc := 23) hc (by simp) (ztm_fr ha) (zar_fr ha) (by decide) (by omega) dL_lay_23 ?_
  exact z_vret (pc := 24) hc he rfl dL_lay_24 (⟨rfl, rfl⟩)

set_option maxRecDepth 100000 in
set_option maxHeartbeats 4000000 in
theorem ct_L_layPin (M : Mem) (b : Nat) (hb : b = 39 ∨ b = 42) (r c v : Int) (hr : 0 ≤ r ∧ r < 12) (hc0 : 0 ≤ c ∧ c < 12) : zCt yL_layPin (KL_layPin b) [zR b, zI r, zI c, zI v] M (fun zv zM => zv = none ∧ zM = zup M b (3 * r + c / 4) (lpV (M b (3 * r + c / 4)) c v)) := by
  refine z_met (by decide) rfl (Nat.le_of_ble_eq_true rfl) (fun X hc he => ?_)
  show zJW X 0 [(0, zR b), (1, zI r), (2, zI c), (3, zI v)] [] M
  refine z_ald (pc := 0) hc 0 rfl dL_layPin_0 ?_
  refine z_iconst (pc := 1) hc 3 dL_layPin_1 ?_
  refine z_ild (pc := 2) hc 1 rfl dL_layPin_2 ?_
  refine z_imul (pc := 3) hc dL_layPin_3 ?_
  refine z_ild (pc := 4) hc 2 rfl dL_layPin_4 ?_
  refine z_iconst (pc := 5) hc 4 dL_layPin_5 ?_
  refine z_idiv (pc := 6) hc (by omega) dL_layPin_6 ?_
  refine z_iadd (pc := 7) hc dL_layPin_7 ?_
  refine z_ald (pc := 8) hc 0 rfl dL_layPin_8 ?_
  refine z_iconst (pc := 9) hc 3 dL_layPin_9 ?_
  refine z_ild (pc := 10) hc 1 rfl dL_layPin_10 ?_
  refine z_imul (pc := 11) hc dL_layPin_11 ?_
  refine z_ild (pc := 12) hc 2 rfl dL_layPin_12 ?_
  refine z_iconst (pc := 13) hc 4 dL_layPin_13 ?_
  refine z_idiv (pc := 14) hc (by omega) dL_layPin_14 ?_
  refine z_iadd (pc := 15) hc dL_layPin_15 ?_
  refine z_iald (pc := 16) hc (by simp) (ztm_pn hb) (zar_pn hb) (by decide) (by omega) dL_layPin_16 ?_
  refine z_bipush (pc := 17) hc 63 (by decide) dL_layPin_17 ?_
  refine z_bipush (pc := 19) hc 6 (by decide) dL_layPin_19 ?_
  refine z_ild (pc := 21) hc 2 rfl dL_layPin_21 ?_
  refine z_iconst (pc := 22) hc 4 dL_layPin_22 ?_
  refine z_irem (pc := 23) hc (by omega) dL_layPin_23 ?_
  refine z_imul (pc := 24) hc dL_layPin_24 ?_
  refine z_ishl (pc := 25) hc dL_layPin_25 ?_
  refine z_iconst (pc := 26) hc (-1) dL_layPin_26 ?_
  refine z_ixor (pc := 27) hc dL_layPin_27 ?_
  refine z_iand (pc := 28) hc dL_layPin_28 ?_
  refine z_ild (pc := 29) hc 3 rfl dL_layPin_29 ?_
  refine z_bipush (pc := 30) hc 6 (by decide) dL_layPin_30 ?_
  refine z_ild (pc := 32) hc 2 rfl dL_layPin_32 ?_
  refine z_iconst (pc := 33) hc 4 dL_layPin_33 ?_
  refine z_irem (pc := 34) hc (by omega) dL_layPin_34 ?_
  refine z_imul (pc := 35) hc dL_layPin_35 ?_
  refine z_ishl (pc := 36) hc dL_layPin_36 ?_
  refine z_ior (pc := 37) hc dL_layPin_37 ?_
  refine z_iast (pc := 38) hc (by simp) (ztm_pn hb) (zar_pn hb) (by decide) (by omega) dL_layPin_38 ?_
  exact z_vret (pc := 39) hc he rfl dL_layPin_39 (⟨rfl, rfl⟩)

set_option maxRecDepth 100000 in
set_option maxHeartbeats 4000000 in
theorem ct_L_side (M : Mem) (d : Int) (hd : 0 ≤ d ∧ d < 8) : zCt yL_side KL_side [zI d] M (fun zv zM => zv = some (zrow d) ∧ zM = M) := by
  refine z_met (by decide) rfl (Nat.le_of_ble_eq_true rfl) (fun X hc he => ?_)
  show zJW X 0 [(0, zI d)] [] M
  refine z_ild (pc := 0) hc 0 rfl dL_side_0 ?_
  refine z_ine (pc := 1) (tgt := 8) hc (by omega) (by decide) dL_side_1 (fun h1 => ?_) (fun h1 => ?_)
  · show zJW X 8 [(0, zI d)] [] M
    refine z_ild (pc := 8) hc 0 rfl dL_side_8 ?_
    refine z_iconst (pc := 9) hc 4 dL_side_9 ?_
    refine z_cne (pc := 10) (tgt := 17) hc (by omega) (by decide) dL_side_10 (fun h10 => ?_) (fun h10 => ?_)
    · show zJW X 17 [(0, zI d)] [] M
      refine z_ild (pc := 17) hc 0 rfl dL_side_17 ?_
      refine z_iconst (pc := 18) hc 1 dL_side_18 ?_
      refine z_ceq (pc := 19) (tgt := 28) hc (by omega) (by decide) dL_side_19 (fun h19 => ?_) (fun h19 => ?_)
      · show zJW X 28 [(0, zI d)] [] M
        refine z_iconst (pc := 28) hc (-1) dL_side_28 ?_
        refine z_goto (pc := 29) (tgt := 47) hc (by decide) dL_side_29 ?_
        exact z_iret (pc := 47) hc he rfl dL_side_47 (by refine ⟨congrArg some ?_, rfl⟩; unfold zrow; omega)
      · show zJW X 22 [(0, zI d)] [] M
        refine z_ild (pc := 22) hc 0 rfl dL_side_22 ?_
        refine z_bipush (pc := 23) hc 7 (by decide) dL_side_23 ?_
        refine z_cne (pc := 25) (tgt := 32) hc (by omega) (by decide) dL_side_25 (fun h25 => ?_) (fun h25 => ?_)
        · show zJW X 32 [(0, zI d)] [] M
          refine z_ild (pc := 32) hc 0 rfl dL_side_32 ?_
          refine z_iconst (pc := 33) hc 3 dL_side_33 ?_
          refine z_ceq (pc := 34) (tgt := 42) hc (by omega) (by decide) dL_side_34 (fun h34 => ?_) (fun h34 => ?_)
          · show zJW X 42 [(0, zI d)] [] M
            refine z_iconst (pc := 42) hc 1 dL_side_42 ?_
            refine z_goto (pc := 43) (tgt := 47) hc (by decide) dL_side_43 ?_
            exact z_iret (pc := 47) hc he rfl dL_side_47 (by refine ⟨congrArg some ?_, rfl⟩; unfold zrow; omega)
          · show zJW X 37 [(0, zI d)] [] M
            refine z_ild (pc := 37) hc 0 rfl dL_side_37 ?_
            refine z_iconst (pc := 38) hc 5 dL_side_38 ?_
            refine z_cne (pc := 39) (tgt := 46) hc (by omega) (by decide) dL_side_39 (fun h39 => ?_) (fun h39 => ?_)
            · show zJW X 46 [(0, zI d)] [] M
              refine z_iconst (pc := 46) hc 0 dL_side_46 ?_
              exact z_iret (pc := 47) hc he rfl dL_side_47 (by refine ⟨congrArg some ?_, rfl⟩; unfold zrow; omega)
            · show zJW X 42 [(0, zI d)] [] M
              refine z_iconst (pc := 42) hc 1 dL_side_42 ?_
              refine z_goto (pc := 43) (tgt := 47) hc (by decide) dL_side_43 ?_
              exact z_iret (pc := 47) hc he rfl dL_side_47 (by refine ⟨congrArg some ?_, rfl⟩; unfold zrow; omega)
        · show zJW X 28 [(0, zI d)] [] M
          refine z_iconst (pc := 28) hc (-1) dL_side_28 ?_
          refine z_goto (pc := 29) (tgt := 47) hc (by decide) dL_side_29 ?_
          exact z_iret (pc := 47) hc he rfl dL_side_47 (by refine ⟨congrArg some ?_, rfl⟩; unfold zrow; omega)
    · show zJW X 13 [(0, zI d)] [] M
      refine z_iconst (pc := 13) hc 1 dL_side_13 ?_
      refine z_goto (pc := 14) (tgt := 47) hc (by decide) dL_side_14 ?_
      exact z_iret (pc := 47) hc he rfl dL_side_47 (by refine ⟨congrArg some ?_, rfl⟩; unfold zrow; omega)
  · show zJW X 4 [(0, zI d)] [] M
    refine z_iconst (pc := 4) hc (-1) dL_side_4 ?_
    refine z_goto (pc := 5) (tgt := 47) hc (by decide) dL_side_5 ?_
    exact z_iret (pc := 47) hc he rfl dL_side_47 (by refine ⟨congrArg some ?_, rfl⟩; unfold zrow; omega)

set_option maxRecDepth 100000 in
set_option maxHeartbeats 4000000 in
theorem ct_L_across (M : Mem) (d : Int) (hd : 0 ≤ d ∧ d < 8) : zCt yL_across KL_across [zI d] M (fun zv zM => zv = some (zcol d) ∧ zM = M) := by
  refine z_met (by decide) rfl (Nat.le_of_ble_eq_true rfl) (fun X hc he => ?_)
  show zJW X 0 [(0, zI d)] [] M
  refine z_ild (pc := 0) hc 0 rfl dL_across_0 ?_
  refine z_iconst (pc := 1) hc 2 dL_across_1 ?_
  refine z_ceq (pc := 2) (tgt := 15) hc (by omega) (by decide) dL_across_2 (fun h2 => ?_) (fun h2 => ?_)
  · show zJW X 15 [(0, zI d)] [] M
    refine z_iconst (pc := 15) hc 1 dL_across_15 ?_
    refine z_goto (pc := 16) (tgt := 41) hc (by decide) dL_across_16 ?_
    exact z_iret (pc := 41) hc he rfl dL_across_41 (by refine ⟨congrArg some ?_, rfl⟩; unfold zcol; omega)
  · show zJW X 5 [(0, zI d)] [] M
    refine z_ild (pc := 5) hc 0 rfl dL_across_5 ?_
    refine z_iconst (pc := 6) hc 1 dL_across_6 ?_
    refine z_ceq (pc := 7) (tgt := 15) hc (by omega) (by decide) dL_across_7 (fun h7 => ?_) (fun h7 => ?_)
    · show zJW X 15 [(0, zI d)] [] M
      refine z_iconst (pc := 15) hc 1 dL_across_15 ?_
      refine z_goto (pc := 16) (tgt := 41) hc (by decide) dL_across_16 ?_
      exact z_iret (pc := 41) hc he rfl dL_across_41 (by refine ⟨congrArg some ?_, rfl⟩; unfold zcol; omega)
    · show zJW X 10 [(0, zI d)] [] M
      refine z_ild (pc := 10) hc 0 rfl dL_across_10 ?_
      refine z_iconst (pc := 11) hc 3 dL_across_11 ?_
      refine z_cne (pc := 12) (tgt := 19) hc (by omega) (by decide) dL_across_12 (fun h12 => ?_) (fun h12 => ?_)
      · show zJW X 19 [(0, zI d)] [] M
        refine z_ild (pc := 19) hc 0 rfl dL_across_19 ?_
        refine z_bipush (pc := 20) hc 6 (by decide) dL_across_20 ?_
        refine z_ceq (pc := 22) (tgt := 36) hc (by omega) (by decide) dL_across_22 (fun h22 => ?_) (fun h22 => ?_)
        · show zJW X 36 [(0, zI d)] [] M
          refine z_iconst (pc := 36) hc (-1) dL_across_36 ?_
          refine z_goto (pc := 37) (tgt := 41) hc (by decide) dL_across_37 ?_
          exact z_iret (pc := 41) hc he rfl dL_across_41 (by refine ⟨congrArg some ?_, rfl⟩; unfold zcol; omega)
        · show zJW X 25 [(0, zI d)] [] M
          refine z_ild (pc := 25) hc 0 rfl dL_across_25 ?_
          refine z_iconst (pc := 26) hc 5 dL_across_26 ?_
          refine z_ceq (pc := 27) (tgt := 36) hc (by omega) (by decide) dL_across_27 (fun h27 => ?_) (fun h27 => ?_)
          · show zJW X 36 [(0, zI d)] [] M
            refine z_iconst (pc := 36) hc (-1) dL_across_36 ?_
            refine z_goto (pc := 37) (tgt := 41) hc (by decide) dL_across_37 ?_
            exact z_iret (pc := 41) hc he rfl dL_across_41 (by refine ⟨congrArg some ?_, rfl⟩; unfold zcol; omega)
          · show zJW X 30 [(0, zI d)] [] M
            refine z_ild (pc := 30) hc 0 rfl dL_across_30 ?_
            refine z_bipush (pc := 31) hc 7 (by decide) dL_across_31 ?_
            refine z_cne (pc := 33) (tgt := 40) hc (by omega) (by decide) dL_across_33 (fun h33 => ?_) (fun h33 => ?_)
            · show zJW X 40 [(0, zI d)] [] M
              refine z_iconst (pc := 40) hc 0 dL_across_40 ?_
              exact z_iret (pc := 41) hc he rfl dL_across_41 (by refine ⟨congrArg some ?_, rfl⟩; unfold zcol; omega)
            · show zJW X 36 [(0, zI d)] [] M
              refine z_iconst (pc := 36) hc (-1) dL_across_36 ?_
              refine z_goto (pc := 37) (tgt := 41) hc (by decide) dL_across_37 ?_
              exact z_iret (pc := 41) hc he rfl dL_across_41 (by refine ⟨congrArg some ?_, rfl⟩; unfold zcol; omega)
      · show zJW X 15 [(0, zI d)] [] M
        refine z_iconst (pc := 15) hc 1 dL_across_15 ?_
        refine z_goto (pc := 16) (tgt := 41) hc (by decide) dL_across_16 ?_
        exact z_iret (pc := 41) hc he rfl dL_across_41 (by refine ⟨congrArg some ?_, rfl⟩; unfold zcol; omega)

set_option maxRecDepth 100000 in
set_option maxHeartbeats 4000000 in
theorem ct_L_around (M : Mem) (a : Nat) (ha : a = 38 ∨ a = 41) (t : TS) (hF : p4F (M a) t) (hO : TOk t) (r c : Int) (hi : inT t r c = true)  : zCt yL_around (KL_around a) [zR a, zI r, zI c] M (fun zv zM => zv = some (arT t r c) ∧ zM = M) := by
  obtain ⟨hO1, hO2, hO3, hO4, hO5⟩ := id hO
  have hib := inT_bd hi
  refine z_met (by decide) rfl (Nat.le_of_ble_eq_true rfl) (fun X hc he => ?_)
  show zJW X 0 [(0, zR a), (1, zI r), (2, zI c)] [] M
  refine z_iconst (pc := 0) hc 0 dL_around_0 ?_
  refine z_ist (pc := 1) (lv' := [(3, zI 0), (0, zR a), (1, zI r), (2, zI c)]) hc rfl (Nat.le_of_ble_eq_true rfl) dL_around_1 ?_
  refine z_iconst (pc := 2) hc 0 dL_around_2 ?_
  refine z_isw (pc := 3) (lv' := [(4, zI 0), (3, zI 0), (0, zR a), (1, zI r), (2, zI c)]) hc rfl (Nat.le_of_ble_eq_true rfl) dL_around_3 ?_
  refine z_for 8 (fun i5 => [(4, zI (i5 : Int)), (3, zI (zmk (afT t r c) i5)), (0, zR a), (1, zI r), (2, zI c)]) (fun i5 => M) (by rfl) (by rfl) ?_ (fun i5 hi5 ih5 => ?_)
  · show zJW X 5 [(4, zI (8 : Int)), (3, zI (zmk (afT t r c) 8)), (0, zR a), (1, zI r), (2, zI c)] [] M
    refine z_ilw (pc := 5) hc 0 rfl dL_around_5 ?_
    refine z_bipush (pc := 7) hc 8 (by decide) dL_around_7 ?_
    refine z_cge (pc := 9) (tgt := 42) hc (by omega) (by decide) dL_around_9 (fun h9 => ?_) (fun h9 => ?_)
    · show zJW X 42 [(4, zI (8 : Int)), (3, zI (zmk (afT t r c) 8)), (0, zR a), (1, zI r), (2, zI c)] [] M
      refine z_ild (pc := 42) hc 1 rfl dL_around_42 ?_
      exact z_iret (pc := 43) hc he rfl dL_around_43 (⟨rfl, rfl⟩)
    · exfalso; omega
  · show zJW X 5 [(4, zI (i5 : Int)), (3, zI (zmk (afT t r c) i5)), (0, zR a), (1, zI r), (2, zI c)] [] M
    have zr := zrow_bd i5
    have zc := zcol_bd i5
    have zb := zmk_bd (afT t r c) i5
    have z2 : (2 : Int) ^ i5 ≤ 256 := by
      have := Nat.pow_le_pow_right (n := 2) (by decide) (show i5 ≤ 8 by omega)
      have e : ((2 ^ i5 : Nat) : Int) = (2 : Int) ^ i5 := by simp
      omega
    refine z_ilw (pc := 5) hc 0 rfl dL_around_5 ?_
    refine z_bipush (pc := 7) hc 8 (by decide) dL_around_7 ?_
    refine z_cge (pc := 9) (tgt := 42) hc (by omega) (by decide) dL_around_9 (fun h9 => ?_) (fun h9 => ?_)
    · exfalso; omega
    · show zJW X 12 [(4, zI (i5 : Int)), (3, zI (zmk (afT t r c) i5)), (0, zR a), (1, zI r), (2, zI c)] [] M
      refine z_ild (pc := 12) hc 1 rfl dL_around_12 ?_
      refine z_ald (pc := 13) hc 2 rfl dL_around_13 ?_
      refine z_ild (pc := 14) hc 3 rfl dL_around_14 ?_
      refine z_ilw (pc := 15) hc 0 rfl dL_around_15 ?_
      refine kc_L_10 (pc := 17) hc rfl (zfitG (Nat.le_of_ble_eq_true rfl) (fun i hi => by first | cases hi | (simp only [zflX, zfl0, Bool.or_eq_true, decide_eq_true_eq] at hi ⊢; omega)) (fun h => by first | rfl | cases h)) (Nat.le_of_ble_eq_true rfl) (ct_L_side M (i5 : Int) (by omega)) dL_around_17 ?_
      refine z_iadd (pc := 20) hc dL_around_20 ?_
      refine z_ild (pc := 21) hc 4 rfl dL_around_21 ?_
      refine z_ilw (pc := 22) hc 0 rfl dL_around_22 ?_
      refine kc_L_16 (pc := 24) hc rfl (zfitG (Nat.le_of_ble_eq_true rfl) (fun i hi => by first | cases hi | (simp only [zflX, zfl0, Bool.or_eq_true, decide_eq_true_eq] at hi ⊢; omega)) (fun h => by first | rfl | cases h)) (Nat.le_of_ble_eq_true rfl) (ct_L_across M (i5 : Int) (by omega)) dL_around_24 ?_
      refine z_iadd (pc := 27) hc dL_around_27 ?_
      refine kc_L_19 (pc := 28) hc rfl (zfitG (Nat.le_of_ble_eq_true rfl) (fun i hi => by first | cases hi | (simp only [zflX, zfl0, Bool.or_eq_true, decide_eq_true_eq] at hi ⊢; omega)) (fun h => by first | rfl | cases h)) (Nat.le_of_ble_eq_true rfl) (ct_L_landT M a ha t hF hO (r + (zrow (i5 : Int))) (c + (zcol (i5 : Int))) (by omega)) dL_around_28 ?_
      refine z_ilw (pc := 31) hc 0 rfl dL_around_31 ?_
      refine z_ishl (pc := 33) hc dL_around_33 ?_
      refine z_iadd (pc := 34) hc dL_around_34 ?_
      refine z_ist (pc := 35) (lv' := [(3, zI (zmk (afT t r c) i5 + (zsl (zbz (laT t (r + (zrow (i5 : Int))) (c + (zcol (i5 : Int))))) (i5 : Int)))), (4, zI (i5 : Int)), (0, zR a), (1, zI r), (2, zI c)]) hc rfl (Nat.le_of_ble_eq_true rfl) dL_around_35 ?_
      refine z_iinc (pc := 36) (lv' := [(4, zI ((i5 : Int) + 1)), (3, zI (zmk (afT t r c) i5 + (zsl (zbz (laT t (r + (zrow (i5 : Int))) (c + (zcol (i5 : Int))))) (i5 : Int)))), (0, zR a), (1, zI r), (2, zI c)]) hc 1 rfl rfl (Nat.le_of_ble_eq_true rfl) dL_around_36 ?_
      refine z_goto (pc := 39) (tgt := 5) hc (by decide) dL_around_39 ?_
      exact zJW_eq (by rw [zslb i5 hi5]; rfl) rfl (by rfl) ih5

set_option maxRecDepth 100000 in
set_option maxHeartbeats 4000000 in
theorem ct_L_regular (M : Mem) (m : Int) (hm : 0 ≤ m ∧ m < 256) : zCt yL_regular KL_regular [zI m] M (fun zv zM => zv = some (rdZ m) ∧ zM = M) := by
  refine z_met (by decide) rfl (Nat.le_of_ble_eq_true rfl) (fun X hc he => ?_)
  show zJW X 0 [(0, zI m)] [] M
  refine z_ild (pc := 0) hc 0 rfl dL_regular_0 ?_
  refine z_iconst (pc := 1) hc 1 dL_regular_1 ?_
  refine z_iand (pc := 2) hc dL_regular_2 ?_
  refine z_ist (pc := 3) (lv' := [(1, zI (zan m 1)), (0, zI m)]) hc rfl (Nat.le_of_ble_eq_true rfl) dL_regular_3 ?_
  refine z_ild (pc := 4) hc 1 rfl dL_regular_4 ?_
  refine z_iconst (pc := 5) hc 2 dL_regular_5 ?_
  refine z_ishr (pc := 6) hc dL_regular_6 ?_
  refine z_iconst (pc := 7) hc 1 dL_regular_7 ?_
  refine z_iand (pc := 8) hc dL_regular_8 ?_
  refine z_ist (pc := 9) (lv' := [(2, zI (zan (zsr m 2) 1)), (1, zI (zan m 1)), (0, zI m)]) hc rfl (Nat.le_of_ble_eq_true rfl) dL_regular_9 ?_
  refine z_ild (pc := 10) hc 2 rfl dL_regular_10 ?_
  refine z_iconst (pc := 11) hc 4 dL_regular_11 ?_
  refine z_ishr (pc := 12) hc dL_regular_12 ?_
  refine z_iconst (pc := 13) hc 1 dL_regular_13 ?_
  refine z_iand (pc := 14) hc dL_regular_14 ?_
  refine z_ist (pc := 15) (lv' := [(3, zI (zan (zsr m 4) 1)), (2, zI (zan (zsr m 2) 1)), (1, zI (zan m 1)), (0, zI m)]) hc rfl (Nat.le_of_ble_eq_true rfl) dL_regular_15 ?_
  refine z_ild (pc := 16) hc 3 rfl dL_regular_16 ?_
  refine z_bipush (pc := 17) hc 6 (by decide) dL_regular_17 ?_
  refine z_ishr (pc := 19) hc dL_regular_19 ?_
  refine z_iconst (pc := 20) hc 1 dL_regular_20 ?_
  refine z_iand (pc := 21) hc dL_regular_21 ?_
  refine z_isw (pc := 22) (lv' := [(4, zI (zan (zsr m 6) 1)), (3, zI (zan (zsr m 4) 1)), (2, zI (zan (zsr m 2) 1)), (1, zI (zan m 1)), (0, zI m)]) hc rfl (Nat.le_of_ble_eq_true rfl) dL_regular_22 ?_
  refine z_ild (pc := 24) hc 3 rfl dL_regular_24 ?_
  refine z_ild (pc := 25) hc 2 rfl dL_regular_25 ?_
  refine z_iconst (pc := 26) hc 2 dL_regular_26 ?_
  refine z_ishl (pc := 27) hc dL_regular_27 ?_
  refine z_ior (pc := 28) hc dL_regular_28 ?_
  refine z_ild (pc := 29) hc 1 rfl dL_regular_29 ?_
  refine z_iconst (pc := 30) hc 4 dL_regular_30 ?_
  refine z_ishl (pc := 31) hc dL_regular_31 ?_
  refine z_ior (pc := 32) hc dL_regular_32 ?_
  refine z_ilw (pc := 33) hc 0 rfl dL_regular_33 ?_
  refine z_bipush (pc := 35) hc 6 (by decide) dL_regular_35 ?_
  refine z_ishl (pc := 37) hc dL_regular_37 ?_
  refine z_ior (pc := 38) hc dL_regular_38 ?_
  refine z_isw (pc := 39) (lv' := [(5, zI (zor (zor (zor (zan m 1) (zsl (zan (zsr m 2) 1) 2)) (zsl (zan (zsr m 4) 1) 4)) (zsl (zan (zsr m 6) 1) 6))), (4, zI (zan (zsr m 6) 1)), (3, zI (zan (zsr m 4) 1)), (2, zI (zan (zsr m 2) 1)), (1, zI (zan m 1)), (0, zI m)]) hc rfl (Nat.le_of_ble_eq_true rfl) dL_regular_39 ?_
  refine z_ilw (pc := 41) hc 0 rfl dL_regular_41 ?_
  refine z_ild (pc := 43) hc 5 rfl dL_regular_43 ?_
  refine z_iconst (pc := 44) hc 2 dL_regular_44 ?_
  refine z_iand (pc := 45) hc dL_regular_45 ?_
  refine z_ild (pc := 46) hc 4 rfl dL_regular_46 ?_
  refine z_imul (pc := 47) hc dL_regular_47 ?_
  refine z_ild (pc := 48) hc 3 rfl dL_regular_48 ?_
  refine z_imul (pc := 49) hc dL_regular_49 ?_
  refine z_ior (pc := 50) hc dL_regular_50 ?_
  refine z_ild (pc := 51) hc 5 rfl dL_regular_51 ?_
  refine z_bipush (pc := 52) hc 8 (by decide) dL_regular_52 ?_
  refine z_iand (pc := 54) hc dL_regular_54 ?_
  refine z_ild (pc := 55) hc 3 rfl dL_regular_55 ?_
  refine z_imul (pc := 56) hc dL_regular_56 ?_
  refine z_ild (pc := 57) hc 2 rfl dL_regular_57 ?_
  refine z_imul (pc := 58) hc dL_regular_58 ?_
  refine z_ior (pc := 59) hc dL_regular_59 ?_
  refine z_ild (pc := 60) hc 5 rfl dL_regular_60 ?_
  refine z_bipush (pc := 61) hc 32 (by decide) dL_regular_61 ?_
  refine z_iand (pc := 63) hc dL_regular_63 ?_
  refine z_ild (pc := 64) hc 2 rfl dL_regular_64 ?_
  refine z_imul (pc := 65) hc dL_regular_65 ?_
  refine z_ilw (pc := 66) hc 1 rfl dL_regular_66 ?_
  refine z_imul (pc := 68) hc dL_regular_68 ?_
  refine z_ior (pc := 69) hc dL_regular_69 ?_
  refine z_ild (pc := 70) hc 5 rfl dL_regular_70 ?_
  refine z_sipush (pc := 71) hc 128 (by decide) dL_regular_71 ?_
  refine z_iand (pc := 74) hc dL_regular_74 ?_
  refine z_ilw (pc := 75) hc 1 rfl dL_regular_75 ?_
  refine z_imul (pc := 77) hc dL_regular_77 ?_
  refine z_ild (pc := 78) hc 4 rfl dL_regular_78 ?_
  refine z_imul (pc := 79) hc dL_regular_79 ?_
  refine z_ior (pc := 80) hc dL_regular_80 ?_
  exact z_iret (pc := 81) hc he rfl dL_regular_81 (by rw [← rgE_eq hm]; exact ⟨rfl, rfl⟩)

set_option maxRecDepth 100000 in
set_option maxHeartbeats 4000000 in
theorem ct_L_shape (M : Mem) (m : Int) (hm : 0 ≤ m ∧ m < 256) : zCt yL_shape KL_shape [zI m] M (fun zv zM => zv = some (zct m.toNat) ∧ zM = M) := by
  refine z_met (by decide) rfl (Nat.le_of_ble_eq_true rfl) (fun X hc he => ?_)
  show zJW X 0 [(0, zI m)] [] M
  refine z_iconst (pc := 0) hc 0 dL_shape_0 ?_
  refine z_ist (pc := 1) (lv' := [(1, zI 0), (0, zI m)]) hc rfl (Nat.le_of_ble_eq_true rfl) dL_shape_1 ?_
  refine z_iconst (pc := 2) hc 0 dL_shape_2 ?_
  refine z_ist (pc := 3) (lv' := [(2, zI 0), (1, zI 0), (0, zI m)]) hc rfl (Nat.le_of_ble_eq_true rfl) dL_shape_3 ?_
  refine z_for m.toNat (fun i4 => [(2, zI (i4 : Int)), (1, zI (zct i4)), (0, zI m)]) (fun i4 => M) (by rfl) (by rfl) ?_ (fun i4 hi4 ih4 => ?_)
  · show zJW X 4 [(2, zI (m.toNat : Int)), (1, zI (zct m.toNat)), (0, zI m)] [] M
    have zl := zct_le m.toNat
    refine z_ild (pc := 4) hc 0 rfl dL_shape_4 ?_
    refine z_ild (pc := 5) hc 2 rfl dL_shape_5 ?_
    refine z_cge (pc := 6) (tgt := 31) hc (by omega) (by decide) dL_shape_6 (fun h6 => ?_) (fun h6 => ?_)
    · show zJW X 31 [(2, zI (m.toNat : Int)), (1, zI (zct m.toNat)), (0, zI m)] [] M
      refine z_ild (pc := 31) hc 1 rfl dL_shape_31 ?_
      exact z_iret (pc := 32) hc he rfl dL_shape_32 (by exact ⟨rfl, rfl⟩)
    · exfalso; omega
  · show zJW X 4 [(2, zI (i4 : Int)), (1, zI (zct i4)), (0, zI m)] [] M
    have zr := rdZ_any (i4 : Int)
    have zl := zct_le i4
    refine z_ild (pc := 4) hc 0 rfl dL_shape_4 ?_
    refine z_ild (pc := 5) hc 2 rfl dL_shape_5 ?_
    refine z_cge (pc := 6) (tgt := 31) hc (by omega) (by decide) dL_shape_6 (fun h6 => ?_) (fun h6 => ?_)
    · exfalso; omega
    · show zJW X 9 [(2, zI (i4 : Int)), (1, zI (zct i4)), (0, zI m)] [] M
      refine z_ild (pc := 9) hc 1 rfl dL_shape_9 ?_
      refine z_ild (pc := 10) hc 0 rfl dL_shape_10 ?_
      refine kc_L_23 (pc := 11) hc rfl (zfitG (Nat.le_of_ble_eq_true rfl) (fun i hi => by first | cases hi | (simp only [zflX, zfl0, Bool.or_eq_true, decide_eq_true_eq] at hi ⊢; omega)) (fun h => by first | rfl | cases h)) (Nat.le_of_ble_eq_true rfl) (ct_L_regular M (i4 : Int) (by first | omega | exact arT_bd _ _ _)) dL_shape_11 ?_
      refine z_ild (pc := 14) hc 0 rfl dL_shape_14 ?_
      refine z_cne (pc := 15) (tgt := 22) hc (by omega) (by decide) dL_shape_15 (fun h15 => ?_) (fun h15 => ?_)
      · show zJW X 22 [(2, zI (i4 : Int)), (1, zI (zct i4)), (0, zI m)] [zI (zct i4)] M
        refine z_iconst (pc := 22) hc 0 dL_shape_22 ?_
        refine z_iadd (pc := 23) hc dL_shape_23 ?_
        refine z_ist (pc := 24) (lv' := [(1, zI (zct i4 + 0)), (2, zI (i4 : Int)), (0, zI m)]) hc rfl (Nat.le_of_ble_eq_true rfl) dL_shape_24 ?_
        refine z_iinc (pc := 25) (lv' := [(2, zI ((i4 : Int) + 1)), (1, zI (zct i4 + 0)), (0, zI m)]) hc 1 rfl rfl (Nat.le_of_ble_eq_true rfl) dL_shape_25 ?_
        refine z_goto (pc := 28) (tgt := 4) hc (by decide) dL_shape_28 ?_
        exact zJW_eq (by first | (rw [zct_up i4 h15] <;> rfl) | (rw [zct_st i4 h15, Int.add_zero] <;> rfl)) rfl (by rfl) ih4
      · show zJW X 18 [(2, zI (i4 : Int)), (1, zI (zct i4)), (0, zI m)] [zI (zct i4)] M
        refine z_iconst (pc := 18) hc 1 dL_shape_18 ?_
        refine z_goto (pc := 19) (tgt := 23) hc (by decide) dL_shape_19 ?_
        refine z_iadd (pc := 23) hc dL_shape_23 ?_
        refine z_ist (pc := 24) (lv' := [(1, zI (zct i4 + 1)), (2, zI (i4 : Int)), (0, zI m)]) hc rfl (Nat.le_of_ble_eq_true rfl) dL_shape_24 ?_
        refine z_iinc (pc := 25) (lv' := [(2, zI ((i4 : Int) + 1)), (1, zI (zct i4 + 1)), (0, zI m)]) hc 1 rfl rfl (Nat.le_of_ble_eq_true rfl) dL_shape_25 ?_
        refine z_goto (pc := 28) (tgt := 4) hc (by decide) dL_shape_28 ?_
        exact zJW_eq (by first | (rw [zct_up i4 h15] <;> rfl) | (rw [zct_st i4 h15, Int.add_zero] <;> rfl)) rfl (by rfl) ih4

set_option maxRecDepth 100000 in
set_option maxHeartbeats 4000000 in
theorem ct_L_mask (M : Mem) (s : Int) (hs : 0 ≤ s ∧ s < 47) : zCt yL_mask KL_mask [zI s] M (fun zv zM => zv = some (mkZ s) ∧ zM = M) := by
  have hmk := mkZ_bd hs
  have hma := mk_at hs
  refine z_met (by decide) rfl (Nat.le_of_ble_eq_true rfl) (fun X hc he => ?_)
  show zJW X 0 [(0, zI s)] [] M
  refine z_ild (pc := 0) hc 0 rfl dL_mask_0 ?_
  refine z_ist (pc := 1) (lv' := [(1, zI s), (0, zI s)]) hc rfl (Nat.le_of_ble_eq_true rfl) dL_mask_1 ?_
  refine z_iconst (pc := 2) hc 0 dL_mask_2 ?_
  refine z_ist (pc := 3) (lv' := [(2, zI 0), (1, zI s), (0, zI s)]) hc rfl (Nat.le_of_ble_eq_true rfl) dL_mask_3 ?_
  refine z_for ((mkZ s).toNat) (fun i4 => [(2, zI (i4 : Int)), (1, zI (s - zct i4)), (0, zI s)]) (fun i4 => M) (by show _ = [((2 : Nat), zI ((0 : Nat) : Int)), (1, zI (s - zct 0)), (0, zI s)]; rw [show s - zct 0 = s from Int.sub_zero s]; rfl) (by rfl) ?_ (fun i4 hi4 ih4 => ?_)
  · show zJW X 4 [(2, zI (((mkZ s).toNat) : Int)), (1, zI (s - zct ((mkZ s).toNat))), (0, zI s)] [] M
    have zl := zct_le (mkZ s).toNat
    have zr : rdZ (((mkZ s).toNat : Nat) : Int) = (((mkZ s).toNat : Nat) : Int) := by
      rw [show (((mkZ s).toNat : Nat) : Int) = mkZ s by omega]
      exact hmk.2.2.1
    have zr2 := rdZ_any (((mkZ s).toNat : Nat) : Int)
    refine z_ild (pc := 4) hc 1 rfl dL_mask_4 ?_
    refine z_igt (pc := 5) (tgt := 16) hc (by omega) (by decide) dL_mask_5 (fun h5 => ?_) (fun h5 => ?_)
    · exfalso; omega
    · show zJW X 8 [(2, zI (((mkZ s).toNat) : Int)), (1, zI (s - zct ((mkZ s).toNat))), (0, zI s)] [] M
      refine z_ild (pc := 8) hc 0 rfl dL_mask_8 ?_
      refine kc_L_23 (pc := 9) hc rfl (zfitG (Nat.le_of_ble_eq_true rfl) (fun i hi => by first | cases hi | (simp only [zflX, zfl0, Bool.or_eq_true, decide_eq_true_eq] at hi ⊢; omega)) (fun h => by first | rfl | cases h)) (Nat.le_of_ble_eq_true rfl) (ct_L_regular M (((mkZ s).toNat) : Int) (by first | omega | exact arT_bd _ _ _)) dL_mask_9 ?_
      refine z_ild (pc := 12) hc 0 rfl dL_mask_12 ?_
      refine z_ceq (pc := 13) (tgt := 38) hc (by omega) (by decide) dL_mask_13 (fun h13 => ?_) (fun h13 => ?_)
      · show zJW X 38 [(2, zI (((mkZ s).toNat) : Int)), (1, zI (s - zct ((mkZ s).toNat))), (0, zI s)] [] M
        refine z_ild (pc := 38) hc 0 rfl dL_mask_38 ?_
        exact z_iret (pc := 39) hc he rfl dL_mask_39 (by refine ⟨congrArg some ?_, rfl⟩; omega)
      · exfalso; omega
  · show zJW X 4 [(2, zI (i4 : Int)), (1, zI (s - zct i4)), (0, zI s)] [] M
    have zr := rdZ_any (i4 : Int)
    have zl := zct_le i4
    refine z_ild (pc := 4) hc 1 rfl dL_mask_4 ?_
    refine z_igt (pc := 5) (tgt := 16) hc (by omega) (by decide) dL_mask_5 (fun h5 => ?_) (fun h5 => ?_)
    · show zJW X 16 [(2, zI (i4 : Int)), (1, zI (s - zct i4)), (0, zI s)] [] M
      refine z_ild (pc := 16) hc 1 rfl dL_mask_16 ?_
      refine z_ild (pc := 17) hc 0 rfl dL_mask_17 ?_
      refine kc_L_23 (pc := 18) hc rfl (zfitG (Nat.le_of_ble_eq_true rfl) (fun i hi => by first | cases hi | (simp only [zflX, zfl0, Bool.or_eq_true, decide_eq_true_eq] at hi ⊢; omega)) (fun h => by first | rfl | cases h)) (Nat.le_of_ble_eq_true rfl) (ct_L_regular M (i4 : Int) (by first | omega | exact arT_bd _ _ _)) dL_mask_18 ?_
      refine z_ild (pc := 21) hc 0 rfl dL_mask_21 ?_
      refine z_cne (pc := 22) (tgt := 29) hc (by omega) (by decide) dL_mask_22 (fun h22 => ?_) (fun h22 => ?_)
      · show zJW X 29 [(2, zI (i4 : Int)), (1, zI (s - zct i4)), (0, zI s)] [zI (s - zct i4)] M
        refine z_iconst (pc := 29) hc 0 dL_mask_29 ?_
        refine z_isub (pc := 30) hc dL_mask_30 ?_
        refine z_ist (pc := 31) (lv' := [(1, zI ((s - zct i4) - 0)), (2, zI (i4 : Int)), (0, zI s)]) hc rfl (Nat.le_of_ble_eq_true rfl) dL_mask_31 ?_
        refine z_iinc (pc := 32) (lv' := [(2, zI ((i4 : Int) + 1)), (1, zI ((s - zct i4) - 0)), (0, zI s)]) hc 1 rfl rfl (Nat.le_of_ble_eq_true rfl) dL_mask_32 ?_
        refine z_goto (pc := 35) (tgt := 4) hc (by decide) dL_mask_35 ?_
        exact zJW_eq (by first | (rw [zct_up i4 h22, show s - (zct i4 + 1) = s - zct i4 - 1 by omega] <;> rfl) | (rw [zct_st i4 h22, Int.sub_zero] <;> rfl)) rfl (by rfl) ih4
      · show zJW X 25 [(2, zI (i4 : Int)), (1, zI (s - zct i4)), (0, zI s)] [zI (s - zct i4)] M
        refine z_iconst (pc := 25) hc 1 dL_mask_25 ?_
        refine z_goto (pc := 26) (tgt := 30) hc (by decide) dL_mask_26 ?_
        refine z_isub (pc := 30) hc dL_mask_30 ?_
        refine z_ist (pc := 31) (lv' := [(1, zI ((s - zct i4) - 1)), (2, zI (i4 : Int)), (0, zI s)]) hc rfl (Nat.le_of_ble_eq_true rfl) dL_mask_31 ?_
        refine z_iinc (pc := 32) (lv' := [(2, zI ((i4 : Int) + 1)), (1, zI ((s - zct i4) - 1)), (0, zI s)]) hc 1 rfl rfl (Nat.le_of_ble_eq_true rfl) dL_mask_32 ?_
        refine z_goto (pc := 35) (tgt := 4) hc (by decide) dL_mask_35 ?_
        exact zJW_eq (by first | (rw [zct_up i4 h22, show s - (zct i4 + 1) = s - zct i4 - 1 by omega] <;> rfl) | (rw [zct_st i4 h22, Int.sub_zero] <;> rfl)) rfl (by rfl) ih4
    · show zJW X 8 [(2, zI (i4 : Int)), (1, zI (s - zct i4)), (0, zI s)] [] M
      refine z_ild (pc := 8) hc 0 rfl dL_mask_8 ?_
      refine kc_L_23 (pc := 9) hc rfl (zfitG (Nat.le_of_ble_eq_true rfl) (fun i hi => by first | cases hi | (simp only [zflX, zfl0, Bool.or_eq_true, decide_eq_true_eq] at hi ⊢; omega)) (fun h => by first | rfl | cases h)) (Nat.le_of_ble_eq_true rfl) (ct_L_regular M (i4 : Int) (by first | omega | exact arT_bd _ _ _)) dL_mask_9 ?_
      refine z_ild (pc := 12) hc 0 rfl dL_mask_12 ?_
      refine z_ceq (pc := 13) (tgt := 38) hc (by omega) (by decide) dL_mask_13 (fun h13 => ?_) (fun h13 => ?_)
      · exfalso; exact mk_more hs hi4 (by omega) h13
      · show zJW X 16 [(2, zI (i4 : Int)), (1, zI (s - zct i4)), (0, zI s)] [] M
        refine z_ild (pc := 16) hc 1 rfl dL_mask_16 ?_
        refine z_ild (pc := 17) hc 0 rfl dL_mask_17 ?_
        refine kc_L_23 (pc := 18) hc rfl (zfitG (Nat.le_of_ble_eq_true rfl) (fun i hi => by first | cases hi | (simp only [zflX, zfl0, Bool.or_eq_true, decide_eq_true_eq] at hi ⊢; omega)) (fun h => by first | rfl | cases h)) (Nat.le_of_ble_eq_true rfl) (ct_L_regular M (i4 : Int) (by first | omega | exact arT_bd _ _ _)) dL_mask_18 ?_
        refine z_ild (pc := 21) hc 0 rfl dL_mask_21 ?_
        refine z_cne (pc := 22) (tgt := 29) hc (by omega) (by decide) dL_mask_22 (fun h22 => ?_) (fun h22 => ?_)
        · show zJW X 29 [(2, zI (i4 : Int)), (1, zI (s - zct i4)), (0, zI s)] [zI (s - zct i4)] M
          refine z_iconst (pc := 29) hc 0 dL_mask_29 ?_
          refine z_isub (pc := 30) hc dL_mask_30 ?_
          refine z_ist (pc := 31) (lv' := [(1, zI ((s - zct i4) - 0)), (2, zI (i4 : Int)), (0, zI s)]) hc rfl (Nat.le_of_ble_eq_true rfl) dL_mask_31 ?_
          refine z_iinc (pc := 32) (lv' := [(2, zI ((i4 : Int) + 1)), (1, zI ((s - zct i4) - 0)), (0, zI s)]) hc 1 rfl rfl (Nat.le_of_ble_eq_true rfl) dL_mask_32 ?_
          refine z_goto (pc := 35) (tgt := 4) hc (by decide) dL_mask_35 ?_
          exact zJW_eq (by first | (rw [zct_up i4 h22, show s - (zct i4 + 1) = s - zct i4 - 1 by omega] <;> rfl) | (rw [zct_st i4 h22, Int.sub_zero] <;> rfl)) rfl (by rfl) ih4
        · show zJW X 25 [(2, zI (i4 : Int)), (1, zI (s - zct i4)), (0, zI s)] [zI (s - zct i4)] M
          refine z_iconst (pc := 25) hc 1 dL_mask_25 ?_
          refine z_goto (pc := 26) (tgt := 30) hc (by decide) dL_mask_26 ?_
          refine z_isub (pc := 30) hc dL_mask_30 ?_
          refine z_ist (pc := 31) (lv' := [(1, zI ((s - zct i4) - 1)), (2, zI (i4 : Int)), (0, zI s)]) hc rfl (Nat.le_of_ble_eq_true rfl) dL_mask_31 ?_
          refine z_iinc (pc := 32) (lv' := [(2, zI ((i4 : Int) + 1)), (1, zI ((s - zct i4) - 1)), (0, zI s)]) hc 1 rfl rfl (Nat.le_of_ble_eq_true rfl) dL_mask_32 ?_
          refine z_goto (pc := 35) (tgt := 4) hc (by decide) dL_mask_35 ?_
          exact zJW_eq (by first | (rw [zct_up i4 h22, show s - (zct i4 + 1) = s - zct i4 - 1 by omega] <;> rfl) | (rw [zct_st i4 h22, Int.sub_zero] <;> rfl)) rfl (by rfl) ih4

