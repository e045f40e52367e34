theorem zSk_o {Q : Mem} {k : Nat} {b : Bool} (hS : zSk Q k) : zSk (zup Q k 2 (zbz b)) k := by
  obtain ⟨h1, h2, h3, h4, h5, h6, h7⟩ := hS
  have e0 : zup Q k 2 (zbz b) k 0 = Q k 0 := zup_off (by decide)
  have e1 : zup Q k 2 (zbz b) k 1 = Q k 1 := zup_off (by decide)
  have e2 : zup Q k 2 (zbz b) k 2 = zbz b := zup_at _ _ _ _
  refine ⟨by omega, by omega, by omega, by omega, ?_, fun i a c => ?_, fun i a c => ?_⟩
  · rw [e2]
    cases b
    · exact Or.inl rfl
    · exact Or.inr rfl
  · rw [zup_ne (by omega)]; exact h6 i a c
  · rw [zup_ne (by omega)]; exact h7 i a c
def rdX (M : Mem) : Mem := zup (zup (copM (recM (paX M)) 0 8 144) 0 2 (zbz (decide (recM (paX M) 0 2 = 1)))) 36 1 0
theorem rdX_S {M : Mem} (h : zSk (recM (paX M)) 8) : zSk (rdX M) 0 := by
  unfold rdX
  exact zSk_congr (M := zup (copM (recM (paX M)) 0 8 144) 0 2 (zbz (decide (recM (paX M) 0 2 = 1)))) (zup_ne (by decide)) (zup_ne (by decide)) (zup_ne (by decide)) (zSk_o (zSk_copM h))
set_option maxRecDepth 100000 in
set_option maxHeartbeats 4000000 in
theorem ct_X5_read (M : Mem) (hI : XI M) (hL : 0 ≤ M 36 1 ∧ M 36 1 ≤ 80) (hC : ∀ z : Int, 0 ≤ z → z < 80 → 0 ≤ M 37 z ∧ M 37 z < 128) : zCt yX5_read KX5_read [zR 27] M (fun zv zM => zv = some (if epT (M 37) (M 36 1).toNat = -6 then lnT (tsX (rdX M) 0) else -5) ∧ zM = (if epT (M 37) (M 36 1).toNat = -6 then rdX M else paX M)) := by
  have ho := (hI.2.1 8 (by decide)).2.2.2.2.1
  have hP := paX_XI hI
  obtain ⟨hPT, hPS, hPH⟩ := id hP
  have hP0 := hPS 0 (by decide)
  have hR := recM_XI hP
  obtain ⟨hRT, hRS, hRH⟩ := id hR
  have hR8 := hRS 8 (by decide)
  have hoR := (hRS 0 (by decide)).2.2.2.2.1
  have hbz := ep_bd (f := M 37) (n := (M 36 1).toNat)
  have hF := rdX_S (M := M) hR8
  refine z_met (by decide) rfl (Nat.le_of_ble_eq_true rfl) (fun X hc he => ?_)
  show zJW X 0 [(0, zR 27)] [] M
  refine z_ald (pc := 0) hc 0 rfl dX5_read_0 ?_
  refine fg_X5_50 (pc := 1) hc rfl rfl dX5_read_1 ?_
  refine kc_X5_196 (pc := 4) hc rfl (zfitX (by decide) rfl rfl) rfl (Nat.le_of_ble_eq_true rfl) (ct_X4_parse M (by assumption) (by assumption) (by assumption) ) dX5_read_4 ?_
  refine z_bipush (pc := 7) hc (-6) (by decide) dX5_read_7 ?_
  refine z_ceq (pc := 9) (tgt := 15) hc (by omega) (by decide) dX5_read_9 (fun h9 => ?_) (fun h9 => ?_)
  · show zJW X 15 [(0, zR 27)] [] (paX M)
    refine z_ald (pc := 15) hc 0 rfl dX5_read_15 ?_
    refine fg_X5_36 (pc := 16) hc rfl rfl dX5_read_16 ?_
    refine z_ald (pc := 19) hc 0 rfl dX5_read_19 ?_
    refine fg_X5_19 (pc := 20) hc rfl rfl dX5_read_20 ?_
    refine kc_X5_58 (pc := 23) hc rfl (zfitX (by decide) rfl rfl) rfl (Nat.le_of_ble_eq_true rfl) (ct_X0_record (paX M) (by assumption) (by assumption) ) dX5_read_23 ?_
    refine z_ald (pc := 26) hc 0 rfl dX5_read_26 ?_
    refine fg_X5_19 (pc := 27) hc rfl rfl dX5_read_27 ?_
    refine fg_X5_66 (pc := 30) hc rfl rfl (by decide) dX5_read_30 ?_
    rw [zbz_of hoR]
    refine z_ist (pc := 33) (lv' := [(1, zI (zbz (decide (recM (paX M) 0 2 = 1)))), (0, zR 27)]) hc rfl (by decide) dX5_read_33 ?_
    refine z_ald (pc := 34) hc 1 rfl dX5_read_34 ?_
    refine fg_X5_19 (pc := 35) hc rfl rfl dX5_read_35 ?_
    refine z_ald (pc := 38) hc 1 rfl dX5_read_38 ?_
    refine fg_X5_50 (pc := 39) hc rfl rfl dX5_read_39 ?_
    refine fg_X5_199 (pc := 42) hc rfl rfl dX5_read_42 ?_
    refine kc_X5_108 (pc := 45) hc rfl (zfitX (by decide) rfl rfl) rfl (by decide) (Nat.le_of_ble_eq_true rfl) (ct_X3_copyFrom (recM (paX M)) 0 8 (by omega) (by omega) (by omega) (by assumption)) dX5_read_45 ?_
    refine z_ald (pc := 48) hc 1 rfl dX5_read_48 ?_
    refine fg_X5_19 (pc := 49) hc rfl rfl dX5_read_49 ?_
    refine z_ild (pc := 52) hc 0 rfl dX5_read_52 ?_
    refine fp_X5_66 (pc := 53) (b := (decide (recM (paX M) 0 2 = 1))) hc rfl rfl (by decide) dX5_read_53 ?_
    refine z_ald (pc := 56) hc 1 rfl dX5_read_56 ?_
    refine fg_X5_50 (pc := 57) hc rfl rfl dX5_read_57 ?_
    refine z_iconst (pc := 60) hc 0 dX5_read_60 ?_
    refine fp_X5_193 (pc := 61) hc rfl rfl dX5_read_61 ?_
    show zJW X _ _ _ (rdX M)
    refine z_ald (pc := 64) hc 1 rfl dX5_read_64 ?_
    refine fg_X5_19 (pc := 65) hc rfl rfl dX5_read_65 ?_
    refine kc_X5_165 (pc := 68) hc rfl (zfitX (by decide) rfl rfl) rfl (by decide) (Nat.le_of_ble_eq_true rfl) (ct_X3_landTiles (rdX M) 0 (by omega) (by assumption)) dX5_read_68 ?_
    exact z_iret (pc := 71) hc he rfl dX5_read_71 (⟨by rw [if_pos h9], by rw [if_pos h9]⟩)
  · show zJW X 12 [(0, zR 27)] [] (paX M)
    refine z_bipush (pc := 12) hc (-5) (by decide) dX5_read_12 ?_
    exact z_iret (pc := 14) hc he rfl dX5_read_14 (⟨by rw [if_neg h9], by rw [if_neg h9]⟩)
