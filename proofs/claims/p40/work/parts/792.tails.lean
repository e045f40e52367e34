abbrev KX3_init : Kp := (cX3_init, 1, none, RX3, 1, fun k => decide (k = 0) || (decide (k = 9) || decide (k = 18)), false)
theorem ok_X3_init : zOk yX3_init KX3_init 0 := ⟨by decide, (List.mem_filter.mpr ⟨List.mem_of_getElem? (i := 14) (by decide +kernel), rfl⟩), (List.mem_filter.mpr ⟨List.mem_of_getElem? (i := 56) (by decide +kernel), rfl⟩), by decide +kernel, by decide +kernel⟩
abbrev KX1_init : Kp := (cX1_init, 3, none, RX1, 3, fun k => decide (k = 28) || (decide (k = 29) || decide (k = 30)), false)
theorem ok_X1_init : zOk yX1_init KX1_init 0 := ⟨by decide, (List.mem_filter.mpr ⟨List.mem_of_getElem? (i := 13) (by decide +kernel), rfl⟩), (List.mem_filter.mpr ⟨List.mem_of_getElem? (i := 33) (by decide +kernel), rfl⟩), by decide +kernel, by decide +kernel⟩
abbrev KX2_init : Kp := (cX2_init, 1, none, RX2, 1, zfl0, false)
theorem ok_X2_init : zOk yX2_init KX2_init 0 := ⟨by decide, (List.mem_filter.mpr ⟨List.mem_of_getElem? (i := 17) (by decide +kernel), rfl⟩), (List.mem_filter.mpr ⟨List.mem_of_getElem? (i := 103) (by decide +kernel), rfl⟩), by decide +kernel, by decide +kernel⟩
abbrev KX0_init : Kp := (cX0_init, 2, none, RX0, 2, zfl0, false)
theorem ok_X0_init : zOk yX0_init KX0_init 0 := ⟨by decide, (List.mem_filter.mpr ⟨List.mem_of_getElem? (i := 16) (by decide +kernel), rfl⟩), (List.mem_filter.mpr ⟨List.mem_of_getElem? (i := 87) (by decide +kernel), rfl⟩), by decide +kernel, by decide +kernel⟩
abbrev KX4_init : Kp := (cX4_init, 1, none, RX4, 2, zfl0, false)
theorem ok_X4_init : zOk yX4_init KX4_init 0 := ⟨by decide, (List.mem_filter.mpr ⟨List.mem_of_getElem? (i := 18) (by decide +kernel), rfl⟩), (List.mem_filter.mpr ⟨List.mem_of_getElem? (i := 124) (by decide +kernel), rfl⟩), by decide +kernel, by decide +kernel⟩
abbrev KX5_init : Kp := (cX5_init, 1, none, RX5, 4, zfl0, false)
theorem ok_X5_init : zOk yX5_init KX5_init 0 := ⟨by decide, (List.mem_filter.mpr ⟨List.mem_of_getElem? (i := 12) (by decide +kernel), rfl⟩), (List.mem_filter.mpr ⟨List.mem_of_getElem? (i := 25) (by decide +kernel), rfl⟩), by decide +kernel, by decide +kernel⟩

theorem kc_X1_18 {X : CX} {pc : Nat} {lv : List (Nat × MV)} {st : List MV} {M : Mem} {a0 : Int} (hc : zCx KX1_init X) (hr : (st.map zcat).sum ≤ 8) (dg : decode cX1_init pc = .ok (.invokestatic 18, 3)) (kk : zJW X (pc + 3) lv (zI (rdZ a0) :: st) M) : zJW X pc lv (zI a0 :: st) M :=
  z_callSN (host := "CoastTiles") (As := [zI a0]) hc (ct_X5_regularPart M a0) ok_X5_regularPart (zfit0 (by decide) rfl rfl) (List.mem_filter.mpr ⟨List.mem_of_getElem? (i := 35) (by decide +kernel), rfl⟩) (List.mem_filter.mpr ⟨List.mem_of_getElem? (i := 36) (by decide +kernel), rfl⟩) rfl hr rfl dg (fun r M' h => by obtain ⟨rfl, rfl⟩ := h; exact kk)

abbrev KJ7f : Kp := (cJ7_fill_53178, 4, none, RJ7, 0, fun k => decide (k = 18), false)
theorem ok_J7f : zOk yJ7_fill_53178 KJ7f 2 := ok_J7_fill_53178
set_option maxRecDepth 100000 in
set_option maxHeartbeats 4000000 in
theorem ct_J7_fil2 (M : Mem) (v : Int) : zCt yJ7_fill_53178 KJ7f [zR 18, zI v] M (fun zv zM => zv = none ∧ zM = filM M 18 144 v) := by
  refine z_met (by decide) rfl (Nat.le_of_ble_eq_true rfl) (fun X hc he => ?_)
  show zJW X 0 [(0, zR 18), (1, zI v)] [] M
  refine z_iconst (pc := 0) hc 0 dJ7_fill_53178_0 ?_
  refine z_ist (pc := 1) (lv' := [(2, zI 0), (0, zR 18), (1, zI v)]) hc rfl (by decide) dJ7_fill_53178_1 ?_
  refine z_ald (pc := 2) hc 1 rfl dJ7_fill_53178_2 ?_
  refine z_alen (pc := 3) (n := 144) hc rfl rfl rfl (by decide) dJ7_fill_53178_3 ?_
  refine z_ist (pc := 4) (lv' := [(3, zI 144), (2, zI 0), (0, zR 18), (1, zI v)]) hc rfl (by decide) dJ7_fill_53178_4 ?_
  refine z_for 144 (fun i5 => [(3, zI 144), (2, zI ((i5 : Nat) : Int)), (0, zR 18), (1, zI v)]) (fun i5 => (filM M 18 ((i5 : Nat) : Int) v)) (by rfl) (by exact filM_0) ?_ (fun i5 hi5 ih5 => ?_)
  · show zJW X 5 [(3, zI 144), (2, zI ((144 : Nat) : Int)), (0, zR 18), (1, zI v)] [] (filM M 18 ((144 : Nat) : Int) v)
    refine z_ild (pc := 5) hc 1 rfl dJ7_fill_53178_5 ?_
    refine z_ild (pc := 6) hc 0 rfl dJ7_fill_53178_6 ?_
    refine z_cge (pc := 7) (tgt := 20) hc (by omega) (by decide) dJ7_fill_53178_7 (fun h7 => ?_) (fun h7 => ?_)
    · show zJW X 20 [(3, zI 144), (2, zI ((144 : Nat) : Int)), (0, zR 18), (1, zI v)] [] (filM M 18 ((144 : Nat) : Int) v)
      exact z_vret (pc := 20) hc he rfl dJ7_fill_53178_20 (⟨rfl, rfl⟩)
    · exfalso; omega
  · show zJW X 5 [(3, zI 144), (2, zI ((i5 : Nat) : Int)), (0, zR 18), (1, zI v)] [] (filM M 18 ((i5 : Nat) : Int) v)
    refine z_ild (pc := 5) hc 1 rfl dJ7_fill_53178_5 ?_
    refine z_ild (pc := 6) hc 0 rfl dJ7_fill_53178_6 ?_
    refine z_cge (pc := 7) (tgt := 20) hc (by omega) (by decide) dJ7_fill_53178_7 (fun h7 => ?_) (fun h7 => ?_)
    · exfalso; omega
    · show zJW X 10 [(3, zI 144), (2, zI ((i5 : Nat) : Int)), (0, zR 18), (1, zI v)] [] (filM M 18 ((i5 : Nat) : Int) v)
      refine z_ald (pc := 10) hc 2 rfl dJ7_fill_53178_10 ?_
      refine z_ild (pc := 11) hc 1 rfl dJ7_fill_53178_11 ?_
      refine z_ild (pc := 12) hc 3 rfl dJ7_fill_53178_12 ?_
      refine z_iast (pc := 13) hc rfl rfl rfl (by decide) (by omega) dJ7_fill_53178_13 ?_
      refine z_iinc (pc := 14) (lv' := [(2, zI (((i5 : Nat) : Int) + 1)), (3, zI 144), (0, zR 18), (1, zI v)]) hc 1 rfl rfl (by decide) dJ7_fill_53178_14 ?_
      refine z_goto (pc := 17) (tgt := 5) hc (by decide) dJ7_fill_53178_17 ?_
      refine zJW_sub (lv' := [(3, zI 144), (2, zI (((i5 : Nat) : Int) + 1)), (0, zR 18), (1, zI v)]) [1, 0, 2, 3] rfl ?_
      exact zJW_eq (by rfl) rfl (by exact filM_s i5) ih5

theorem kc_X3_30 {X : CX} {pc : Nat} {lv : List (Nat × MV)} {st : List MV} {M : Mem} {v : Int} (hc : zCx KX3_init X) (hr : (st.map zcat).sum ≤ 8) (dg : decode cX3_init pc = .ok (.invokestatic 30, 3)) (kk : zJW X (pc + 3) lv st (filM M 18 144 v)) : zJW X pc lv (zI v :: zR 18 :: st) M :=
  z_callS (As := [zR 18, zI v]) hc (ct_J7_fil2 M v) ok_J7f ⟨by decide, fun i hi => by have h : i = 18 := of_decide_eq_true hi; subst h; rfl, fun h => by cases h⟩ (List.mem_filter.mpr ⟨List.mem_of_getElem? (i := 58) (by decide +kernel), rfl⟩) (List.mem_filter.mpr ⟨List.mem_of_getElem? (i := 59) (by decide +kernel), rfl⟩) rfl hr rfl dg (fun r M' h => by obtain ⟨rfl, rfl⟩ := h; exact kk)

set_option maxRecDepth 100000 in
set_option maxHeartbeats 4000000 in
theorem zX1_loop {X : CX} {M : Mem} (hc : zCx KX1_init X) (hend : zJW X 80 [(0, zR 28)] [] (zTm 29 30 M 256)) : zJW X 25 [(2, zI 0), (1, zI 0), (0, zR 28)] [] M := by
  refine z_for 256 (fun i25 => [(2, zI ((i25 : Nat) : Int)), (1, zI (zcn i25)), (0, zR 28)]) (fun i25 => (zTm 29 30 M i25)) (by rw [zcn_e.1]; rfl) (by exact (zTm_0 29 30 M).symm) ?_ (fun i25 hi25 ih25 => ?_)
  · show zJW X 25 [(2, zI ((256 : Nat) : Int)), (1, zI (zcn 256)), (0, zR 28)] [] (zTm 29 30 M 256)
    refine z_ild (pc := 25) hc 0 rfl dX1_init_25 ?_
    refine z_sipush (pc := 26) hc 256 (by decide) dX1_init_26 ?_
    refine z_cge (pc := 29) (tgt := 80) hc (by omega) (by decide) dX1_init_29 (fun h29 => ?_) (fun h29 => ?_)
    · show zJW X 80 [(2, zI ((256 : Nat) : Int)), (1, zI (zcn 256)), (0, zR 28)] [] (zTm 29 30 M 256)
      refine zJW_sub (lv' := [(0, zR 28)]) [2] rfl hend
    · exfalso; omega
  · show zJW X 25 [(2, zI ((i25 : Nat) : Int)), (1, zI (zcn i25)), (0, zR 28)] [] (zTm 29 30 M i25)
    have hcb := zcn_bd hi25
    refine z_ild (pc := 25) hc 0 rfl dX1_init_25 ?_
    refine z_sipush (pc := 26) hc 256 (by decide) dX1_init_26 ?_
    refine z_cge (pc := 29) (tgt := 80) hc (by omega) (by decide) dX1_init_29 (fun h29 => ?_) (fun h29 => ?_)
    · exfalso; omega
    · show zJW X 32 [(2, zI ((i25 : Nat) : Int)), (1, zI (zcn i25)), (0, zR 28)] [] (zTm 29 30 M i25)
      refine z_ild (pc := 32) hc 0 rfl dX1_init_32 ?_
      refine kc_X1_18 (pc := 33) hc (by decide) dX1_init_33 ?_
      refine z_ild (pc := 36) hc 0 rfl dX1_init_36 ?_
      refine z_cne (pc := 37) (tgt := 66) hc (by have := rdZ_bd (m := (i25 : Int)) (by omega); omega) (by decide) dX1_init_37 (fun h37 => ?_) (fun h37 => ?_)
      · show zJW X 66 [(2, zI ((i25 : Nat) : Int)), (1, zI (zcn i25)), (0, zR 28)] [] (zTm 29 30 M i25)
        refine z_ald (pc := 66) hc 2 rfl dX1_init_66 ?_
        refine fg_X1_15 (pc := 67) hc rfl rfl dX1_init_67 ?_
        refine z_ild (pc := 70) hc 0 rfl dX1_init_70 ?_
        refine z_bipush (pc := 71) hc (-6) (by decide) dX1_init_71 ?_
        refine z_iast (pc := 73) hc rfl rfl rfl (by decide) (by omega) dX1_init_73 ?_
        refine z_iinc (pc := 74) (lv' := [(2, zI (((i25 : Nat) : Int) + 1)), (1, zI (zcn i25)), (0, zR 28)]) hc 0 rfl rfl (by decide) dX1_init_74 ?_
        refine z_goto (pc := 77) (tgt := 25) hc (by decide) dX1_init_77 ?_
        exact zJW_eq (by first | (rw [(zcn_y hi25 h37).2.1]; rfl) | (rw [(zcn_n hi25 h37).1]; rfl)) rfl (by first | exact zTm_y (by decide) M hi25 h37 | exact zTm_n (by decide) M hi25 h37) ih25
      · show zJW X 40 [(2, zI ((i25 : Nat) : Int)), (1, zI (zcn i25)), (0, zR 28)] [] (zTm 29 30 M i25)
        refine z_ild (pc := 40) hc 1 rfl dX1_init_40 ?_
        refine z_bipush (pc := 41) hc 47 (by decide) dX1_init_41 ?_
        refine z_cge (pc := 43) (tgt := 66) hc (by omega) (by decide) dX1_init_43 (fun h43 => ?_) (fun h43 => ?_)
        · exfalso; have := (zcn_y hi25 h37).1; omega
        · show zJW X 46 [(2, zI ((i25 : Nat) : Int)), (1, zI (zcn i25)), (0, zR 28)] [] (zTm 29 30 M i25)
          refine z_ald (pc := 46) hc 2 rfl dX1_init_46 ?_
          refine fg_X1_9 (pc := 47) hc rfl rfl dX1_init_47 ?_
          refine z_ild (pc := 50) hc 1 rfl dX1_init_50 ?_
          refine z_ild (pc := 51) hc 0 rfl dX1_init_51 ?_
          refine z_iast (pc := 52) hc rfl rfl rfl (by decide) (by omega) dX1_init_52 ?_
          refine z_ald (pc := 53) hc 2 rfl dX1_init_53 ?_
          refine fg_X1_15 (pc := 54) hc rfl rfl dX1_init_54 ?_
          refine z_ild (pc := 57) hc 0 rfl dX1_init_57 ?_
          refine z_ild (pc := 58) hc 1 rfl dX1_init_58 ?_
          refine z_iast (pc := 59) hc rfl rfl rfl (by decide) (by omega) dX1_init_59 ?_
          refine z_iinc (pc := 60) (lv' := [(1, zI ((zcn i25) + 1)), (2, zI ((i25 : Nat) : Int)), (0, zR 28)]) hc 1 rfl rfl (by decide) dX1_init_60 ?_
          refine z_goto (pc := 63) (tgt := 74) hc (by decide) dX1_init_63 ?_
          refine z_iinc (pc := 74) (lv' := [(2, zI (((i25 : Nat) : Int) + 1)), (1, zI ((zcn i25) + 1)), (0, zR 28)]) hc 1 rfl rfl (by decide) dX1_init_74 ?_
          refine z_goto (pc := 77) (tgt := 25) hc (by decide) dX1_init_77 ?_
          exact zJW_eq (by first | (rw [(zcn_y hi25 h37).2.1]; rfl) | (rw [(zcn_n hi25 h37).1]; rfl)) rfl (by first | exact zTm_y (by decide) M hi25 h37 | exact zTm_n (by decide) M hi25 h37) ih25
