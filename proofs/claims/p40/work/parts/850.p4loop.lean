theorem ct_L_cell {L : Nat} {xs : Nat → Int32} (hL : L ≤ 260) (k : Int) (hk : 0 ≤ k ∧ k < 100) : zCtX yL_cell KL_cell L xs [zR 60, zI k] (fun v => ∃ z : Int, v = some z) := by
  refine z_metX (M := fun _ _ => 0) (by decide) rfl (Nat.le_of_ble_eq_true rfl) rfl rfl (fun X hc hs he => ?_)
  show zJW X 0 [(0, zR 60), (1, zI k)] [] (fun _ _ => 0)
  obtain ⟨M, hM9⟩ : ∃ M : Mem, M = fun _ _ => 0 := ⟨_, rfl⟩
  rw [← hM9]
  refine z_ild (pc := 0) hc 1 rfl dL_cell_0 ?_
  refine z_ald (pc := 1) hc 0 rfl dL_cell_1 ?_
  refine z_slen (pc := 2) hc hs dL_cell_2 ?_
  refine z_cge (pc := 3) (tgt := 12) hc (by omega) (by decide) dL_cell_3 (fun h3 => ?_) (fun h3 => ?_)
  · show zJW X 12 [(0, zR 60), (1, zI k)] [] M
    refine z_ldc (pc := 12) hc 32452867 (List.mem_filter.mpr ⟨List.mem_of_getElem? (i := 369) (by decide +kernel), rfl⟩) dL_cell_12 ?_
    refine z_ild (pc := 14) hc 1 rfl dL_cell_14 ?_
    refine z_imul (pc := 15) hc dL_cell_15 ?_
    refine z_ldc (pc := 16) hc 15485863 (List.mem_filter.mpr ⟨List.mem_of_getElem? (i := 370) (by decide +kernel), rfl⟩) dL_cell_16 ?_
    refine z_iadd (pc := 18) hc dL_cell_18 ?_
    exact z_iret (pc := 19) hc he rfl dL_cell_19 (⟨_, rfl⟩)
  · show zJW X 6 [(0, zR 60), (1, zI k)] [] M
    refine z_ald (pc := 6) hc 0 rfl dL_cell_6 ?_
    refine z_ild (pc := 7) hc 1 rfl dL_cell_7 ?_
    refine z_sld (pc := 8) hc hs (by omega) hL dL_cell_8 ?_
    refine z_goto (pc := 9) (tgt := 19) hc (by decide) dL_cell_9 ?_
    exact z_iret (pc := 19) hc he rfl dL_cell_19 (⟨_, rfl⟩)

set_option maxRecDepth 100000 in
set_option maxHeartbeats 4000000 in
theorem law_turn_a {L : Nat} {xs : Nat → Int32} {X : CX} {M : Mem} {t : TS} (hc : zCx (KL_law 41) X) (hs : zSc X L xs) (hL : L ≤ 260) (hLI : p4LI M t) (e : Int) (he : 0 ≤ e ∧ e ≤ 26) (hx : 26 ≤ e → zJW X 1481 [(5, zI e), (4, zR 40), (3, zR 39), (2, zR 38), (1, zR 27), (0, zR 60)] [] M) (hk : e < 26 → ∀ (h kd r c : Int) (vb : Bool), 0 ≤ kd ∧ kd < 18 → inT t r c = true → zJW X 130 [(10, zI (zbz vb)), (9, zI c), (8, zI r), (7, zI kd), (6, zI h), (5, zI e), (4, zR 40), (3, zR 39), (2, zR 38), (1, zR 27), (0, zR 60)] [] M) : zJW X 60 [(5, zI e), (4, zR 40), (3, zR 39), (2, zR 38), (1, zR 27), (0, zR 60)] [] M := by
  obtain ⟨hX, ht, hO, hM⟩ := id hLI
  obtain ⟨hF, hP, hT⟩ := id hM
  obtain ⟨hO1, hO2, hO3, hO4, hO5⟩ := id hO
  have e40_0 : M 40 0 = tH t := hT.1
  have e40_1 : M 40 1 = tW t := hT.2.1
  refine z_ilw (pc := 60) hc 0 rfl dL_law_60 ?_
  refine z_bipush (pc := 62) hc 26 (by decide) dL_law_62 ?_
  refine z_cge (pc := 64) (tgt := 1481) hc (by omega) (by decide) dL_law_64 (fun h64 => ?_) (fun h64 => ?_)
  · show zJW X 1481 [(5, zI e), (4, zR 40), (3, zR 39), (2, zR 38), (1, zR 27), (0, zR 60)] [] M
    exact hx h64
  · show zJW X 67 [(5, zI e), (4, zR 40), (3, zR 39), (2, zR 38), (1, zR 27), (0, zR 60)] [] M
    refine z_ald (pc := 67) hc 5 rfl dL_law_67 ?_
    refine z_ilw (pc := 68) hc 0 rfl dL_law_68 ?_
    refine z_callX (pc := 70) (y := yL_cell) (K' := KL_cell) (As := [zR 60, zI e]) (rest := []) hc hs (ct_L_cell hL e (by omega)) ok_L_cell (zfitG (Nat.le_of_ble_eq_true rfl) (fun i hi => by first | cases hi | (simp only [zflX, zfl0, Bool.or_eq_true, decide_eq_true_eq] at hi ⊢; omega)) (fun h => by first | rfl | cases h)) (List.mem_filter.mpr ⟨List.mem_of_getElem? (i := 366) (by decide +kernel), rfl⟩) im_L_cell rfl (Nat.le_of_ble_eq_true rfl) rfl dL_law_70 (fun zr hq => ?_)
    obtain ⟨h, rfl⟩ := hq
    show zJW X 73 [(5, zI e), (4, zR 40), (3, zR 39), (2, zR 38), (1, zR 27), (0, zR 60)] [zI h] M
    refine z_isw (pc := 73) (lv' := [(6, zI h), (5, zI e), (4, zR 40), (3, zR 39), (2, zR 38), (1, zR 27), (0, zR 60)]) hc rfl (Nat.le_of_ble_eq_true rfl) dL_law_73 ?_
    refine z_ilw (pc := 75) hc 0 rfl dL_law_75 ?_
    refine z_bipush (pc := 77) hc 18 (by decide) dL_law_77 ?_
    refine kc_L_73 (pc := 79) hc rfl (zfitG (Nat.le_of_ble_eq_true rfl) (fun i hi => by first | cases hi | (simp only [zflX, zfl0, Bool.or_eq_true, decide_eq_true_eq] at hi ⊢; omega)) (fun h => by first | rfl | cases h)) (Nat.le_of_ble_eq_true rfl) (ct_L_low M h 18 (by omega)) dL_law_79 ?_
    obtain ⟨kd, hkd9⟩ : ∃ z : Int, z = (zan h 2147483647 % 18) := ⟨_, rfl⟩
    have hb_kd : 0 ≤ kd ∧ kd < 18 := by rw [hkd9]; exact ⟨Int.emod_nonneg _ (by omega), Int.emod_lt_of_pos _ (by omega)⟩
    refine zJW_eq (st' := [zI kd]) rfl (by rw [hkd9]) rfl ?_
    refine z_isw (pc := 82) (lv' := [(7, zI kd), (6, zI h), (5, zI e), (4, zR 40), (3, zR 39), (2, zR 38), (1, zR 27), (0, zR 60)]) hc rfl (Nat.le_of_ble_eq_true rfl) dL_law_82 ?_
    refine z_ilw (pc := 84) hc 1 rfl dL_law_84 ?_
    refine z_iconst (pc := 86) hc 5 dL_law_86 ?_
    refine z_ishr (pc := 87) hc dL_law_87 ?_
    refine z_alw (pc := 88) hc 3 rfl dL_law_88 ?_
    refine z_iconst (pc := 90) hc 0 dL_law_90 ?_
    refine z_iald (pc := 91) hc (by decide) rfl rfl (by decide) (by omega) dL_law_91 ?_
    refine zJW_eq (st' := [zI (tH t), zI (zsr h 5)]) rfl (by rw [e40_0]) rfl ?_
    refine kc_L_73 (pc := 92) hc rfl (zfitG (Nat.le_of_ble_eq_true rfl) (fun i hi => by first | cases hi | (simp only [zflX, zfl0, Bool.or_eq_true, decide_eq_true_eq] at hi ⊢; omega)) (fun h => by first | rfl | cases h)) (Nat.le_of_ble_eq_true rfl) (ct_L_low M (zsr h 5) (tH t) (by omega)) dL_law_92 ?_
    obtain ⟨r, hr9⟩ : ∃ z : Int, z = (zan (zsr h 5) 2147483647 % (tH t)) := ⟨_, rfl⟩
    have hb_r : 0 ≤ r ∧ r < tH t := by rw [hr9]; exact ⟨Int.emod_nonneg _ (by omega), Int.emod_lt_of_pos _ (by omega)⟩
    refine zJW_eq (st' := [zI r]) rfl (by rw [hr9]) rfl ?_
    refine z_isw (pc := 95) (lv' := [(8, zI r), (7, zI kd), (6, zI h), (5, zI e), (4, zR 40), (3, zR 39), (2, zR 38), (1, zR 27), (0, zR 60)]) hc rfl (Nat.le_of_ble_eq_true rfl) dL_law_95 ?_
    refine z_ilw (pc := 97) hc 2 rfl dL_law_97 ?_
    refine z_bipush (pc := 99) hc 9 (by decide) dL_law_99 ?_
    refine z_ishr (pc := 101) hc dL_law_101 ?_
    refine z_alw (pc := 102) hc 4 rfl dL_law_102 ?_
    refine z_iconst (pc := 104) hc 1 dL_law_104 ?_
    refine z_iald (pc := 105) hc (by decide) rfl rfl (by decide) (by omega) dL_law_105 ?_
    refine zJW_eq (st' := [zI (tW t), zI (zsr h 9)]) rfl (by rw [e40_1]) rfl ?_
    refine kc_L_73 (pc := 106) hc rfl (zfitG (Nat.le_of_ble_eq_true rfl) (fun i hi => by first | cases hi | (simp only [zflX, zfl0, Bool.or_eq_true, decide_eq_true_eq] at hi ⊢; omega)) (fun h => by first | rfl | cases h)) (Nat.le_of_ble_eq_true rfl) (ct_L_low M (zsr h 9) (tW t) (by omega)) dL_law_106 ?_
    obtain ⟨c, hc9⟩ : ∃ z : Int, z = (zan (zsr h 9) 2147483647 % (tW t)) := ⟨_, rfl⟩
    have hb_c : 0 ≤ c ∧ c < tW t := by rw [hc9]; exact ⟨Int.emod_nonneg _ (by omega), Int.emod_lt_of_pos _ (by omega)⟩
    refine zJW_eq (st' := [zI c]) rfl (by rw [hc9]) rfl ?_
    refine z_isw (pc := 109) (lv' := [(9, zI c), (8, zI r), (7, zI kd), (6, zI h), (5, zI e), (4, zR 40), (3, zR 39), (2, zR 38), (1, zR 27), (0, zR 60)]) hc rfl (Nat.le_of_ble_eq_true rfl) dL_law_109 ?_
    refine z_ilw (pc := 111) hc 3 rfl dL_law_111 ?_
    refine z_bipush (pc := 113) hc 13 (by decide) dL_law_113 ?_
    refine z_ishr (pc := 115) hc dL_law_115 ?_
    refine z_iconst (pc := 116) hc 3 dL_law_116 ?_
    refine kc_L_73 (pc := 117) hc rfl (zfitG (Nat.le_of_ble_eq_true rfl) (fun i hi => by first | cases hi | (simp only [zflX, zfl0, Bool.or_eq_true, decide_eq_true_eq] at hi ⊢; omega)) (fun h => by first | rfl | cases h)) (Nat.le_of_ble_eq_true rfl) (ct_L_low M (zsr h 13) 3 (by omega)) dL_law_117 ?_
    refine z_ile (pc := 120) (tgt := 127) hc (by have := Int.emod_nonneg (zan (zsr h 13) 2147483647) (show (3 : Int) ≠ 0 by decide); have := Int.emod_lt_of_pos (zan (zsr h 13) 2147483647) (show (0 : Int) < 3 by decide); omega) (by decide) dL_law_120 (fun h120 => ?_) (fun h120 => ?_)
    · show zJW X 127 [(9, zI c), (8, zI r), (7, zI kd), (6, zI h), (5, zI e), (4, zR 40), (3, zR 39), (2, zR 38), (1, zR 27), (0, zR 60)] [] M
      refine z_iconst (pc := 127) hc 0 dL_law_127 ?_
      refine z_isw (pc := 128) (lv' := [(10, zI 0), (9, zI c), (8, zI r), (7, zI kd), (6, zI h), (5, zI e), (4, zR 40), (3, zR 39), (2, zR 38), (1, zR 27), (0, zR 60)]) hc rfl (Nat.le_of_ble_eq_true rfl) dL_law_128 ?_
      exact hk (by omega) h kd r c false hb_kd (inT_of (by omega))
    · show zJW X 123 [(9, zI c), (8, zI r), (7, zI kd), (6, zI h), (5, zI e), (4, zR 40), (3, zR 39), (2, zR 38), (1, zR 27), (0, zR 60)] [] M
      refine z_iconst (pc := 123) hc 1 dL_law_123 ?_
      refine z_goto (pc := 124) (tgt := 128) hc (by decide) dL_law_124 ?_
      refine z_isw (pc := 128) (lv' := [(10, zI 1), (9, zI c), (8, zI r), (7, zI kd), (6, zI h), (5, zI e), (4, zR 40), (3, zR 39), (2, zR 38), (1, zR 27), (0, zR 60)]) hc rfl (Nat.le_of_ble_eq_true rfl) dL_law_128 ?_
      exact hk (by omega) h kd r c true hb_kd (inT_of (by omega))

set_option maxRecDepth 100000 in
set_option maxHeartbeats 4000000 in
theorem law_turn_b {X0 X : CX} {c9 s9 : Nat} {M : Mem} {t : TS} (hc : zCx (KL_law 41) X) (ha : zAl 43 c9 s9 X0 X) (hcap : zCap X0 (c9 + 2) (s9 + 50)) (hn41 : zNI 41 X0) (hn42 : zNI 42 X0) (hLI : p4LI M t) (h kd r c e : Int) (vb : Bool) (hk : ∀ (X : CX) (M1 : Mem), zCx (KL_law 43) X → zAl 43 (c9 + 2) (s9 + 50) X0 X → p4LI M1 t → p4F (M1 41) t → p4P (M1 42) t → zJW X 160 [(14, zI 0), (13, zI 1), (12, zR 42), (11, zR 41), (10, zI (zbz vb)), (9, zI c), (8, zI r), (7, zI kd), (6, zI h), (5, zI e), (4, zR 40), (3, zR 39), (2, zR 38), (1, zR 27), (0, zR 60)] [] M1) : zJW X 130 [(10, zI (zbz vb)), (9, zI c), (8, zI r), (7, zI kd), (6, zI h), (5, zI e), (4, zR 40), (3, zR 39), (2, zR 38), (1, zR 27), (0, zR 60)] [] M := by
  obtain ⟨hX, ht, hO, hM⟩ := id hLI
  obtain ⟨hF, hP, hT⟩ := id hM
  obtain ⟨hO1, hO2, hO3, hO4, hO5⟩ := id hO
  have e40_0 : M 40 0 = tH t := hT.1
  have e40_1 : M 40 1 = tW t := hT.2.1
  have hX32 : ∀ M' : Mem, M' 32 = M 32 → ∀ j : Int, 0 ≤ j → j < 5 → 3 ≤ M' 32 j ∧ M' 32 j ≤ 7 := fun M' e => by rw [e]; exact p4_32 hX
  have eZ : ∀ k : Nat, k < 41 → (cpM (cpM (zarn (zarn M 41) 42) 38 41 14) 39 42 36) k = M k := fun k hk => by
    rw [cpM_off (by omega), cpM_off (by omega)]
    funext z
    show (if k = 42 then 0 else if k = 41 then 0 else M k z) = M k z
    rw [if_neg (by omega), if_neg (by omega)]
  have eF : ∀ z : Int, 0 ≤ z ∧ z < 14 → (cpM (cpM (zarn (zarn M 41) 42) 38 41 14) 39 42 36) 41 z = M 38 z := fun z hz => by rw [cpM_off (by decide), cpM_to hz]; rfl
  have eP : ∀ z : Int, 0 ≤ z ∧ z < 36 → (cpM (cpM (zarn (zarn M 41) 42) 38 41 14) 39 42 36) 42 z = M 39 z := fun z hz => by rw [cpM_to hz, cpM_off (by decide)]; rfl
  have hLZ : p4LI (cpM (cpM (zarn (zarn M 41) 42) 38 41 14) 39 42 36) t := by
    have h1 := p4Y_lo (M' := (cpM (cpM (zarn (zarn M 41) 42) 38 41 14) 39 42 36)) ⟨hX, ht⟩ (fun k hk => eZ k (by omega))
    refine ⟨h1.1, h1.2, hO, ?_⟩
    unfold p4M
    rw [eZ 38 (by decide), eZ 39 (by decide), eZ 40 (by decide)]
    exact hM
  have g41 : p4F ((cpM (cpM (zarn (zarn M 41) 42) 38 41 14) 39 42 36) 41) t := fun r c a1 a2 a3 a4 => by
    have e : laZ ((cpM (cpM (zarn (zarn M 41) 42) 38 41 14) 39 42 36) 41) r c = laZ (M 38) r c := by unfold laZ; rw [eF (r + 1) (by omega)]
    rw [e]
    exact hF r c a1 a2 a3 a4
  have g42 : p4P ((cpM (cpM (zarn (zarn M 41) 42) 38 41 14) 39 42 36) 42) t := fun r c hi => by
    have hib := inT_bd hi
    have e : piZ ((cpM (cpM (zarn (zarn M 41) 42) 38 41 14) 39 42 36) 42) r c = piZ (M 39) r c := by unfold piZ; rw [eP (3 * r + c / 4) (by omega)]
    rw [e]
    exact hP r c hi
  refine z_bipush (pc := 130) hc 14 (by decide) dL_law_130 ?_
  refine z_newa (pc := 132) (K' := KL_law 42) (k := 41) (N := 14) hc ha ⟨rfl, rfl, rfl, rfl, rfl, rfl⟩ (fun i hi => by simp only [decide_eq_true_eq] at hi ⊢; omega) hn41 (by decide) ⟨by decide, by decide⟩ rfl rfl (by decide) (hcap.le (by omega) (by omega)) (List.mem_filter.mpr ⟨List.mem_of_getElem? (i := 51) (by decide +kernel), rfl⟩) (hX32 _ (by first | rfl | decide)) (zno_ok rfl) (zno_ok2 rfl) dL_law_132 (fun X hc ha => ?_)
  show zJW X 134 [(10, zI (zbz vb)), (9, zI c), (8, zI r), (7, zI kd), (6, zI h), (5, zI e), (4, zR 40), (3, zR 39), (2, zR 38), (1, zR 27), (0, zR 60)] [zR 41] (zarn M 41)
  refine z_asw (pc := 134) (lv' := [(11, zR 41), (10, zI (zbz vb)), (9, zI c), (8, zI r), (7, zI kd), (6, zI h), (5, zI e), (4, zR 40), (3, zR 39), (2, zR 38), (1, zR 27), (0, zR 60)]) hc rfl (Nat.le_of_ble_eq_true rfl) dL_law_134 ?_
  refine z_bipush (pc := 136) hc 36 (by decide) dL_law_136 ?_
  refine z_newa (pc := 138) (K' := KL_law 43) (k := 42) (N := 36) hc ha ⟨rfl, rfl, rfl, rfl, rfl, rfl⟩ (fun i hi => by simp only [decide_eq_true_eq] at hi ⊢; omega) hn42 (by decide) ⟨by decide, by decide⟩ rfl rfl (by decide) (hcap.le (by omega) (by omega)) (List.mem_filter.mpr ⟨List.mem_of_getElem? (i := 51) (by decide +kernel), rfl⟩) (hX32 _ (by first | rfl | decide)) (zno_ok rfl) (zno_ok2 rfl) dL_law_138 (fun X hc ha => ?_)
  show zJW X 140 [(11, zR 41), (10, zI (zbz vb)), (9, zI c), (8, zI r), (7, zI kd), (6, zI h), (5, zI e), (4, zR 40), (3, zR 39), (2, zR 38), (1, zR 27), (0, zR 60)] [zR 42] (zarn (zarn M 41) 42)
  refine z_asw (pc := 140) (lv' := [(12, zR 42), (11, zR 41), (10, zI (zbz vb)), (9, zI c), (8, zI r), (7, zI kd), (6, zI h), (5, zI e), (4, zR 40), (3, zR 39), (2, zR 38), (1, zR 27), (0, zR 60)]) hc rfl (Nat.le_of_ble_eq_true rfl) dL_law_140 ?_
  refine z_ald (pc := 142) hc 10 rfl dL_law_142 ?_
  refine z_alw (pc := 143) hc 1 rfl dL_law_143 ?_
  refine kc_L_113 (pc := 145) hc rfl (zfitG (Nat.le_of_ble_eq_true rfl) (fun i hi => by first | cases hi | (simp only [zflX, zfl0, Bool.or_eq_true, decide_eq_true_eq] at hi ⊢; omega)) (fun h => by first | rfl | cases h)) (Nat.le_of_ble_eq_true rfl) (ct_L_copy_38_41 (zarn (zarn M 41) 42)) dL_law_145 ?_
  refine z_ald (pc := 148) hc 9 rfl dL_law_148 ?_
  refine z_alw (pc := 149) hc 0 rfl dL_law_149 ?_
  refine kc_L_113 (pc := 151) hc rfl (zfitG (Nat.le_of_ble_eq_true rfl) (fun i hi => by first | cases hi | (simp only [zflX, zfl0, Bool.or_eq_true, decide_eq_true_eq] at hi ⊢; omega)) (fun h => by first | rfl | cases h)) (Nat.le_of_ble_eq_true rfl) (ct_L_copy_39_42 (cpM (zarn (zarn M 41) 42) 38 41 14)) dL_law_151 ?_
  refine z_iconst (pc := 154) hc 1 dL_law_154 ?_
  refine z_isw (pc := 155) (lv' := [(13, zI 1), (12, zR 42), (11, zR 41), (10, zI (zbz vb)), (9, zI c), (8, zI r), (7, zI kd), (6, zI h), (5, zI e), (4, zR 40), (3, zR 39), (2, zR 38), (1, zR 27), (0, zR 60)]) hc rfl (Nat.le_of_ble_eq_true rfl) dL_law_155 ?_
  refine z_iconst (pc := 157) hc 0 dL_law_157 ?_
  refine z_isw (pc := 158) (lv' := [(14, zI 0), (13, zI 1), (12, zR 42), (11, zR 41), (10, zI (zbz vb)), (9, zI c), (8, zI r), (7, zI kd), (6, zI h), (5, zI e), (4, zR 40), (3, zR 39), (2, zR 38), (1, zR 27), (0, zR 60)]) hc rfl (Nat.le_of_ble_eq_true rfl) dL_law_158 ?_
  exact hk X _ hc (ha.le (by omega) (by omega)) hLZ g41 g42

set_option maxRecDepth 100000 in
set_option maxHeartbeats 4000000 in
theorem law_disp {X : CX} {M : Mem} {t : TS} (hc : zCx (KL_law 43) X) (hLI : p4LI M t) (h41 : p4F (M 41) t) (h42 : p4P (M 42) t) (e h kd r c : Int) (vb : Bool) (hi : inT t r c = true) (hkd : 0 ≤ kd ∧ kd < 18) (hJ : ∀ (M1 : Mem) (t1 : TS), p4LI M1 t1 → zJW X 1384 [(13, zI 1), (6, zI h), (5, zI e), (4, zR 40), (3, zR 39), (2, zR 38), (1, zR 27), (0, zR 60)] [] M1) : zJW X 160 [(14, zI 0), (13, zI 1), (12, zR 42), (11, zR 41), (10, zI (zbz vb)), (9, zI c), (8, zI r), (7, zI kd), (6, zI h), (5, zI e), (4, zR 40), (3, zR 39), (2, zR 38), (1, zR 27), (0, zR 60)] [] M := by
  refine z_ilw (pc := 160) hc 7 rfl dL_law_160 ?_
  refine z_iconst (pc := 162) hc 5 dL_law_162 ?_
  refine z_cge (pc := 163) (tgt := 221) hc (by omega) (by decide) dL_law_163 (fun h163 => ?_) (fun h163 => ?_)
  · show zJW X 221 [(14, zI 0), (13, zI 1), (12, zR 42), (11, zR 41), (10, zI (zbz vb)), (9, zI c), (8, zI r), (7, zI kd), (6, zI h), (5, zI e), (4, zR 40), (3, zR 39), (2, zR 38), (1, zR 27), (0, zR 60)] [] M
    refine z_ilw (pc := 221) hc 7 rfl dL_law_221 ?_
    refine z_bipush (pc := 223) hc 7 (by decide) dL_law_223 ?_
    refine z_cge (pc := 225) (tgt := 510) hc (by omega) (by decide) dL_law_225 (fun h225 => ?_) (fun h225 => ?_)
    · show zJW X 510 [(14, zI 0), (13, zI 1), (12, zR 42), (11, zR 41), (10, zI (zbz vb)), (9, zI c), (8, zI r), (7, zI kd), (6, zI h), (5, zI e), (4, zR 40), (3, zR 39), (2, zR 38), (1, zR 27), (0, zR 60)] [] M
      refine z_ilw (pc := 510) hc 7 rfl dL_law_510 ?_
      refine z_bipush (pc := 512) hc 9 (by decide) dL_law_512 ?_
      refine z_cge (pc := 514) (tgt := 661) hc (by omega) (by decide) dL_law_514 (fun h514 => ?_) (fun h514 => ?_)
      · show zJW X 661 [(14, zI 0), (13, zI 1), (12, zR 42), (11, zR 41), (10, zI (zbz vb)), (9, zI c), (8, zI r), (7, zI kd), (6, zI h), (5, zI e), (4, zR 40), (3, zR 39), (2, zR 38), (1, zR 27), (0, zR 60)] [] M
        refine z_ilw (pc := 661) hc 7 rfl dL_law_661 ?_
        refine z_bipush (pc := 663) hc 9 (by decide) dL_law_663 ?_
        refine z_cne (pc := 665) (tgt := 790) hc (by omega) (by decide) dL_law_665 (fun h665 => ?_) (fun h665 => ?_)
        · show zJW X 790 [(14, zI 0), (13, zI 1), (12, zR 42), (11, zR 41), (10, zI (zbz vb)), (9, zI c), (8, zI r), (7, zI kd), (6, zI h), (5, zI e), (4, zR 40), (3, zR 39), (2, zR 38), (1, zR 27), (0, zR 60)] [] M
          refine z_ilw (pc := 790) hc 7 rfl dL_law_790 ?_
          refine z_bipush (pc := 792) hc 10 (by decide) dL_law_792 ?_
          refine z_cne (pc := 794) (tgt := 1021) hc (by omega) (by decide) dL_law_794 (fun h794 => ?_) (fun h794 => ?_)
          · show zJW X 1021 [(14, zI 0), (13, zI 1), (12, zR 42), (11, zR 41), (10, zI (zbz vb)), (9, zI c), (8, zI r), (7, zI kd), (6, zI h), (5, zI e), (4, zR 40), (3, zR 39), (2, zR 38), (1, zR 27), (0, zR 60)] [] M
            refine z_ilw (pc := 1021) hc 7 rfl dL_law_1021 ?_
            refine z_bipush (pc := 1023) hc 11 (by decide) dL_law_1023 ?_
            refine z_cne (pc := 1025) (tgt := 1088) hc (by omega) (by decide) dL_law_1025 (fun h1025 => ?_) (fun h1025 => ?_)
            · show zJW X 1088 [(14, zI 0), (13, zI 1), (12, zR 42), (11, zR 41), (10, zI (zbz vb)), (9, zI c), (8, zI r), (7, zI kd), (6, zI h), (5, zI e), (4, zR 40), (3, zR 39), (2, zR 38), (1, zR 27), (0, zR 60)] [] M
              refine z_ilw (pc := 1088) hc 7 rfl dL_law_1088 ?_
              refine z_bipush (pc := 1090) hc 12 (by decide) dL_law_1090 ?_
              refine z_cne (pc := 1092) (tgt := 1221) hc (by omega) (by decide) dL_law_1092 (fun h1092 => ?_) (fun h1092 => ?_)
              · show zJW X 1221 [(14, zI 0), (13, zI 1), (12, zR 42), (11, zR 41), (10, zI (zbz vb)), (9, zI c), (8, zI r), (7, zI kd), (6, zI h), (5, zI e), (4, zR 40), (3, zR 39), (2, zR 38), (1, zR 27), (0, zR 60)] [] M
                refine z_ilw (pc := 1221) hc 7 rfl dL_law_1221 ?_
                refine z_bipush (pc := 1223) hc 16 (by decide) dL_law_1223 ?_
                refine z_cge (pc := 1225) (tgt := 1332) hc (by omega) (by decide) dL_law_1225 (fun h1225 => ?_) (fun h1225 => ?_)
                · show zJW X 1332 [(14, zI 0), (13, zI 1), (12, zR 42), (11, zR 41), (10, zI (zbz vb)), (9, zI c), (8, zI r), (7, zI kd), (6, zI h), (5, zI e), (4, zR 40), (3, zR 39), (2, zR 38), (1, zR 27), (0, zR 60)] [] M
                  exact law_unpin hc hLI h41 h42 e h kd r c vb hi hJ
                · show zJW X 1228 [(14, zI 0), (13, zI 1), (12, zR 42), (11, zR 41), (10, zI (zbz vb)), (9, zI c), (8, zI r), (7, zI kd), (6, zI h), (5, zI e), (4, zR 40), (3, zR 39), (2, zR 38), (1, zR 27), (0, zR 60)] [] M
                  exact law_pin hc hLI h41 h42 e h kd r c vb hi hJ
              · show zJW X 1095 [(14, zI 0), (13, zI 1), (12, zR 42), (11, zR 41), (10, zI (zbz vb)), (9, zI c), (8, zI r), (7, zI kd), (6, zI h), (5, zI e), (4, zR 40), (3, zR 39), (2, zR 38), (1, zR 27), (0, zR 60)] [] M
                refine z_ilw (pc := 1095) hc 8 rfl dL_law_1095 ?_
                refine z_bipush (pc := 1097) hc 15 (by decide) dL_law_1097 ?_
                refine z_ishr (pc := 1099) hc dL_law_1099 ?_
                refine z_iconst (pc := 1100) hc 3 dL_law_1100 ?_
                refine kc_L_73 (pc := 1101) hc rfl (zfitG (Nat.le_of_ble_eq_true rfl) (fun i hi => by first | cases hi | (simp only [zflX, zfl0, Bool.or_eq_true, decide_eq_true_eq] at hi ⊢; omega)) (fun h => by first | rfl | cases h)) (Nat.le_of_ble_eq_true rfl) (ct_L_low M (zsr h 15) 3 (by omega)) dL_law_1101 ?_
                refine z_ine (pc := 1104) (tgt := 1221) hc (by have := Int.emod_nonneg (zan (zsr h 15) 2147483647) (show (3 : Int) ≠ 0 by decide); have := Int.emod_lt_of_pos (zan (zsr h 15) 2147483647) (show (0 : Int) < 3 by decide); omega) (by decide) dL_law_1104 (fun h1104 => ?_) (fun h1104 => ?_)
                · show zJW X 1221 [(14, zI 0), (13, zI 1), (12, zR 42), (11, zR 41), (10, zI (zbz vb)), (9, zI c), (8, zI r), (7, zI kd), (6, zI h), (5, zI e), (4, zR 40), (3, zR 39), (2, zR 38), (1, zR 27), (0, zR 60)] [] M
                  refine z_ilw (pc := 1221) hc 7 rfl dL_law_1221 ?_
                  refine z_bipush (pc := 1223) hc 16 (by decide) dL_law_1223 ?_
                  refine z_cge (pc := 1225) (tgt := 1332) hc (by omega) (by decide) dL_law_1225 (fun h1225 => ?_) (fun h1225 => ?_)
                  · show zJW X 1332 [(14, zI 0), (13, zI 1), (12, zR 42), (11, zR 41), (10, zI (zbz vb)), (9, zI c), (8, zI r), (7, zI kd), (6, zI h), (5, zI e), (4, zR 40), (3, zR 39), (2, zR 38), (1, zR 27), (0, zR 60)] [] M
                    exact law_unpin hc hLI h41 h42 e h kd r c vb hi hJ
                  · show zJW X 1228 [(14, zI 0), (13, zI 1), (12, zR 42), (11, zR 41), (10, zI (zbz vb)), (9, zI c), (8, zI r), (7, zI kd), (6, zI h), (5, zI e), (4, zR 40), (3, zR 39), (2, zR 38), (1, zR 27), (0, zR 60)] [] M
                    exact law_pin hc hLI h41 h42 e h kd r c vb hi hJ
                · show zJW X 1107 [(14, zI 0), (13, zI 1), (12, zR 42), (11, zR 41), (10, zI (zbz vb)), (9, zI c), (8, zI r), (7, zI kd), (6, zI h), (5, zI e), (4, zR 40), (3, zR 39), (2, zR 38), (1, zR 27), (0, zR 60)] [] M
                  exact law_begin hc hLI h41 h42 e h kd r c vb hi hJ
            · show zJW X 1028 [(14, zI 0), (13, zI 1), (12, zR 42), (11, zR 41), (10, zI (zbz vb)), (9, zI c), (8, zI r), (7, zI kd), (6, zI h), (5, zI e), (4, zR 40), (3, zR 39), (2, zR 38), (1, zR 27), (0, zR 60)] [] M
              exact law_out hc hLI h41 h42 e h kd r c vb hi hJ
          · show zJW X 797 [(14, zI 0), (13, zI 1), (12, zR 42), (11, zR 41), (10, zI (zbz vb)), (9, zI c), (8, zI r), (7, zI kd), (6, zI h), (5, zI e), (4, zR 40), (3, zR 39), (2, zR 38), (1, zR 27), (0, zR 60)] [] M
            exact law_turn hc hLI h41 h42 e h kd r c vb hi hJ
        · show zJW X 668 [(14, zI 0), (13, zI 1), (12, zR 42), (11, zR 41), (10, zI (zbz vb)), (9, zI c), (8, zI r), (7, zI kd), (6, zI h), (5, zI e), (4, zR 40), (3, zR 39), (2, zR 38), (1, zR 27), (0, zR 60)] [] M
          exact law_smooth hc hLI h41 h42 e h kd r c vb hi hJ
      · show zJW X 517 [(14, zI 0), (13, zI 1), (12, zR 42), (11, zR 41), (10, zI (zbz vb)), (9, zI c), (8, zI r), (7, zI kd), (6, zI h), (5, zI e), (4, zR 40), (3, zR 39), (2, zR 38), (1, zR 27), (0, zR 60)] [] M
        exact law_brush hc hLI h41 h42 e h kd r c vb hi hJ
    · show zJW X 228 [(14, zI 0), (13, zI 1), (12, zR 42), (11, zR 41), (10, zI (zbz vb)), (9, zI c), (8, zI r), (7, zI kd), (6, zI h), (5, zI e), (4, zR 40), (3, zR 39), (2, zR 38), (1, zR 27), (0, zR 60)] [] M
      exact law_fill hc hLI h41 h42 e h kd r c vb hi hJ
  · show zJW X 166 [(14, zI 0), (13, zI 1), (12, zR 42), (11, zR 41), (10, zI (zbz vb)), (9, zI c), (8, zI r), (7, zI kd), (6, zI h), (5, zI e), (4, zR 40), (3, zR 39), (2, zR 38), (1, zR 27), (0, zR 60)] [] M
    exact law_set hc hLI h41 h42 e h kd r c vb hi hJ

set_option maxRecDepth 100000 in
set_option maxHeartbeats 4000000 in
theorem law_turn_z {L : Nat} {xs : Nat → Int32} {X0 X : CX} {c9 s9 : Nat} {M : Mem} {t : TS} (hc : zCx (KL_law 43) X) (hs : zSc X L xs) (hL : L ≤ 260) (ha : zAl 43 c9 s9 X0 X) (hcap : zCap X0 (c9 + 21315) (s9 + 255780)) (hLI : p4LI M t) (e h : Int) (he : 0 ≤ e ∧ e < 26) (hk : ∀ (X : CX) (M1 : Mem), zCx (KL_law 43) X → zAl 43 (c9 + 21315) (s9 + 255780) X0 X → p4LI M1 t → zJW X 60 [(5, zI (e + 1)), (4, zR 40), (3, zR 39), (2, zR 38), (1, zR 27), (0, zR 60)] [] M1) : zJW X 1384 [(13, zI 1), (6, zI h), (5, zI e), (4, zR 40), (3, zR 39), (2, zR 38), (1, zR 27), (0, zR 60)] [] M := by
  obtain ⟨hX, ht, hO, hM⟩ := id hLI
  obtain ⟨hF, hP, hT⟩ := id hM
  obtain ⟨hO1, hO2, hO3, hO4, hO5⟩ := id hO
  have e40_0 : M 40 0 = tH t := hT.1
  have e40_1 : M 40 1 = tW t := hT.2.1
  refine z_ald (pc := 1384) hc 7 rfl dL_law_1384 ?_
  refine z_bipush (pc := 1385) hc 30 (by decide) dL_law_1385 ?_
  refine z_ilw (pc := 1387) hc 2 rfl dL_law_1387 ?_
  refine z_iadd (pc := 1389) hc dL_law_1389 ?_
  refine z_callX (pc := 1390) (y := yL_cell) (K' := KL_cell) (As := [zR 60, zI (30 + e)]) (rest := []) hc hs (ct_L_cell hL (30 + e) (by omega)) ok_L_cell (zfitG (Nat.le_of_ble_eq_true rfl) (fun i hi => by first | cases hi | (simp only [zflX, zfl0, Bool.or_eq_true, decide_eq_true_eq] at hi ⊢; omega)) (fun h => by first | rfl | cases h)) (List.mem_filter.mpr ⟨List.mem_of_getElem? (i := 366) (by decide +kernel), rfl⟩) im_L_cell rfl (Nat.le_of_ble_eq_true rfl) rfl dL_law_1390 (fun zr hq => ?_)
  obtain ⟨x, rfl⟩ := hq
  show zJW X 1393 [(13, zI 1), (6, zI h), (5, zI e), (4, zR 40), (3, zR 39), (2, zR 38), (1, zR 27), (0, zR 60)] [zI x] M
  refine z_isw (pc := 1393) (lv' := [(15, zI x), (13, zI 1), (6, zI h), (5, zI e), (4, zR 40), (3, zR 39), (2, zR 38), (1, zR 27), (0, zR 60)]) hc rfl (Nat.le_of_ble_eq_true rfl) dL_law_1393 ?_
  refine z_ilw (pc := 1395) hc 1 rfl dL_law_1395 ?_
  refine z_ieq (pc := 1397) (tgt := 1473) hc (by omega) (by decide) dL_law_1397 (fun h1397 => ?_) (fun h1397 => ?_)
  · exfalso; omega
  · show zJW X 1400 [(15, zI x), (13, zI 1), (6, zI h), (5, zI e), (4, zR 40), (3, zR 39), (2, zR 38), (1, zR 27), (0, zR 60)] [] M
    refine z_ald (pc := 1400) hc 7 rfl dL_law_1400 ?_
    refine z_ald (pc := 1401) hc 6 rfl dL_law_1401 ?_
    refine z_ald (pc := 1402) hc 5 rfl dL_law_1402 ?_
    refine z_alw (pc := 1403) hc 4 rfl dL_law_1403 ?_
    refine z_ilw (pc := 1405) hc 2 rfl dL_law_1405 ?_
    refine kc_L_159 (pc := 1407) hc rfl (zfitG (Nat.le_of_ble_eq_true rfl) (fun i hi => by first | cases hi | (simp only [zflX, zfl0, Bool.or_eq_true, decide_eq_true_eq] at hi ⊢; omega)) (fun h => by first | rfl | cases h)) (Nat.le_of_ble_eq_true rfl) (ct_L_tiles M t hX ht hM hO h) dL_law_1407 ?_
    refine z_beq (pc := 1410) (tgt := 1473) hc (by decide) dL_law_1410 (fun h1410 => ?_) (fun h1410 => ?_)
    · exfalso; cases h1410
    · show zJW X 1413 [(15, zI x), (13, zI 1), (6, zI h), (5, zI e), (4, zR 40), (3, zR 39), (2, zR 38), (1, zR 27), (0, zR 60)] [] M
      refine z_ald (pc := 1413) hc 7 rfl dL_law_1413 ?_
      refine z_ald (pc := 1414) hc 6 rfl dL_law_1414 ?_
      refine z_alw (pc := 1415) hc 4 rfl dL_law_1415 ?_
      refine z_ilw (pc := 1417) hc 0 rfl dL_law_1417 ?_
      refine z_alw (pc := 1419) hc 4 rfl dL_law_1419 ?_
      refine z_iconst (pc := 1421) hc 0 dL_law_1421 ?_
      refine z_iald (pc := 1422) hc (by decide) rfl rfl (by decide) (by omega) dL_law_1422 ?_
      refine zJW_eq (st' := [zI (tH t), zI x, zR 40, zR 38, zR 27]) rfl (by rw [e40_0]) rfl ?_
      refine kc_L_73 (pc := 1423) hc rfl (zfitG (Nat.le_of_ble_eq_true rfl) (fun i hi => by first | cases hi | (simp only [zflX, zfl0, Bool.or_eq_true, decide_eq_true_eq] at hi ⊢; omega)) (fun h => by first | rfl | cases h)) (Nat.le_of_ble_eq_true rfl) (ct_L_low M x (tH t) (by omega)) dL_law_1423 ?_
      obtain ⟨p, hp9⟩ : ∃ z : Int, z = (zan x 2147483647 % (tH t)) := ⟨_, rfl⟩
      have hb_p : 0 ≤ p ∧ p < tH t := by rw [hp9]; exact ⟨Int.emod_nonneg _ (by omega), Int.emod_lt_of_pos _ (by omega)⟩
      refine zJW_eq (st' := [zI p, zR 40, zR 38, zR 27]) rfl (by rw [hp9]) rfl ?_
      refine z_ilw (pc := 1426) hc 0 rfl dL_law_1426 ?_
      refine z_iconst (pc := 1428) hc 4 dL_law_1428 ?_
      refine z_ishr (pc := 1429) hc dL_law_1429 ?_
      refine z_alw (pc := 1430) hc 4 rfl dL_law_1430 ?_
      refine z_iconst (pc := 1432) hc 1 dL_law_1432 ?_
      refine z_iald (pc := 1433) hc (by decide) rfl rfl (by decide) (by omega) dL_law_1433 ?_
      refine zJW_eq (st' := [zI (tW t), zI (zsr x 4), zI p, zR 40, zR 38, zR 27]) rfl (by rw [e40_1]) rfl ?_
      refine kc_L_73 (pc := 1434) hc rfl (zfitG (Nat.le_of_ble_eq_true rfl) (fun i hi => by first | cases hi | (simp only [zflX, zfl0, Bool.or_eq_true, decide_eq_true_eq] at hi ⊢; omega)) (fun h => by first | rfl | cases h)) (Nat.le_of_ble_eq_true rfl) (ct_L_low M (zsr x 4) (tW t) (by omega)) dL_law_1434 ?_
      obtain ⟨q, hq9⟩ : ∃ z : Int, z = (zan (zsr x 4) 2147483647 % (tW t)) := ⟨_, rfl⟩
      have hb_q : 0 ≤ q ∧ q < tW t := by rw [hq9]; exact ⟨Int.emod_nonneg _ (by omega), Int.emod_lt_of_pos _ (by omega)⟩
      refine zJW_eq (st' := [zI q, zI p, zR 40, zR 38, zR 27]) rfl (by rw [hq9]) rfl ?_
      refine z_ilw (pc := 1437) hc 0 rfl dL_law_1437 ?_
      refine z_bipush (pc := 1439) hc 8 (by decide) dL_law_1439 ?_
      refine z_ishr (pc := 1441) hc dL_law_1441 ?_
      refine z_bipush (pc := 1442) hc 47 (by decide) dL_law_1442 ?_
      refine kc_L_73 (pc := 1444) hc rfl (zfitG (Nat.le_of_ble_eq_true rfl) (fun i hi => by first | cases hi | (simp only [zflX, zfl0, Bool.or_eq_true, decide_eq_true_eq] at hi ⊢; omega)) (fun h => by first | rfl | cases h)) (Nat.le_of_ble_eq_true rfl) (ct_L_low M (zsr x 8) 47 (by omega)) dL_law_1444 ?_
      obtain ⟨s, hs9⟩ : ∃ z : Int, z = (zan (zsr x 8) 2147483647 % 47) := ⟨_, rfl⟩
      have hb_s : 0 ≤ s ∧ s < 47 := by rw [hs9]; exact ⟨Int.emod_nonneg _ (by omega), Int.emod_lt_of_pos _ (by omega)⟩
      refine zJW_eq (st' := [zI s, zI q, zI p, zR 40, zR 38, zR 27]) rfl (by rw [hs9]) rfl ?_
      refine kc_L_163 (pc := 1447) hc rfl (zfitG (Nat.le_of_ble_eq_true rfl) (fun i hi => by first | cases hi | (simp only [zflX, zfl0, Bool.or_eq_true, decide_eq_true_eq] at hi ⊢; omega)) (fun h => by first | rfl | cases h)) (Nat.le_of_ble_eq_true rfl) (ct_L_needs M t hX ht hM hO p q (inT_of (by omega)) s hb_s) dL_law_1447 ?_
      refine z_beq (pc := 1450) (tgt := 1473) hc (by decide) dL_law_1450 (fun h1450 => ?_) (fun h1450 => ?_)
      · exfalso; cases h1450
      · show zJW X 1453 [(15, zI x), (13, zI 1), (6, zI h), (5, zI e), (4, zR 40), (3, zR 39), (2, zR 38), (1, zR 27), (0, zR 60)] [] M
        refine z_ilw (pc := 1453) hc 3 rfl dL_law_1453 ?_
        refine z_iconst (pc := 1455) hc 5 dL_law_1455 ?_
        refine z_irem (pc := 1456) hc (by omega) dL_law_1456 ?_
        refine z_iconst (pc := 1457) hc 4 dL_law_1457 ?_
        refine z_cne (pc := 1458) (tgt := 1475) hc (by omega) (by decide) dL_law_1458 (fun h1458 => ?_) (fun h1458 => ?_)
        · show zJW X 1475 [(15, zI x), (13, zI 1), (6, zI h), (5, zI e), (4, zR 40), (3, zR 39), (2, zR 38), (1, zR 27), (0, zR 60)] [] M
          refine z_iinc (pc := 1475) (lv' := [(5, zI (e + 1)), (15, zI x), (13, zI 1), (6, zI h), (4, zR 40), (3, zR 39), (2, zR 38), (1, zR 27), (0, zR 60)]) hc 3 rfl rfl (Nat.le_of_ble_eq_true rfl) dL_law_1475 ?_
          refine z_goto (pc := 1478) (tgt := 60) hc (by decide) dL_law_1478 ?_
          refine zJW_sub (lv' := [(5, zI (e + 1)), (4, zR 40), (3, zR 39), (2, zR 38), (1, zR 27), (0, zR 60)]) [0, 4, 5, 6, 7, 8] rfl ?_
          exact hk X _ hc (ha.le (by omega) (by omega)) hLI
        · show zJW X 1461 [(15, zI x), (13, zI 1), (6, zI h), (5, zI e), (4, zR 40), (3, zR 39), (2, zR 38), (1, zR 27), (0, zR 60)] [] M
          refine z_ald (pc := 1461) hc 7 rfl dL_law_1461 ?_
          refine z_ald (pc := 1462) hc 6 rfl dL_law_1462 ?_
          refine z_alw (pc := 1463) hc 4 rfl dL_law_1463 ?_
          refine z_ilw (pc := 1465) hc 0 rfl dL_law_1465 ?_
          refine z_callSA (pc := 1467) (y := yL_regions) (K' := KL_regions 38 40) (mc' := 21315) (ms' := 255780) (As := [zR 27, zR 38, zR 40, zI x]) (rest := []) hc ha (ct_L_regions M t hLI x) ok_L_regions (zfitG (Nat.le_of_ble_eq_true rfl) (fun i hi => by first | cases hi | (simp only [zflX, zfl0, Bool.or_eq_true, decide_eq_true_eq] at hi ⊢; omega)) (fun h => by first | rfl | cases h)) (List.mem_filter.mpr ⟨List.mem_of_getElem? (i := 465) (by decide +kernel), rfl⟩) im_L_regions rfl (Nat.le_of_ble_eq_true rfl) hcap rfl dL_law_1467 (fun X zr Mz hc ha hq => ?_)
          obtain ⟨rfl, hK9⟩ := hq
          show zJW X 1470 [(15, zI x), (13, zI 1), (6, zI h), (5, zI e), (4, zR 40), (3, zR 39), (2, zR 38), (1, zR 27), (0, zR 60)] [zI (zbz true)] Mz
          refine z_bne (pc := 1470) (tgt := 1475) hc (by decide) dL_law_1470 (fun h1470 => ?_) (fun h1470 => ?_)
          · show zJW X 1475 [(15, zI x), (13, zI 1), (6, zI h), (5, zI e), (4, zR 40), (3, zR 39), (2, zR 38), (1, zR 27), (0, zR 60)] [] Mz
            refine z_iinc (pc := 1475) (lv' := [(5, zI (e + 1)), (15, zI x), (13, zI 1), (6, zI h), (4, zR 40), (3, zR 39), (2, zR 38), (1, zR 27), (0, zR 60)]) hc 3 rfl rfl (Nat.le_of_ble_eq_true rfl) dL_law_1475 ?_
            refine z_goto (pc := 1478) (tgt := 60) hc (by decide) dL_law_1478 ?_
            refine zJW_sub (lv' := [(5, zI (e + 1)), (4, zR 40), (3, zR 39), (2, zR 38), (1, zR 27), (0, zR 60)]) [0, 4, 5, 6, 7, 8] rfl ?_
            exact hk X _ hc ha (p4LI_K hLI hK9)
          · exfalso; cases h1470

set_option maxRecDepth 100000 in
theorem law_loop {L : Nat} {xs : Nat → Int32} {X0 : CX} (hs : zSc X0 L xs) (hL : L ≤ 260) (hcap : zCap X0 (3 + 26 * 21317) (53 + 26 * 255830)) (hn41 : zNI 41 X0) (hn42 : zNI 42 X0) (hend : ∀ (X : CX) (M : Mem), zCx (KL_law 41) X → zAl 43 (3 + 26 * 21317) (53 + 26 * 255830) X0 X → zJW X 1481 [(5, zI ((26 : Nat) : Int)), (4, zR 40), (3, zR 39), (2, zR 38), (1, zR 27), (0, zR 60)] [] M) : ∀ (d e : Nat) (X : CX) (M : Mem) (t : TS), e + d = 26 → zCx (KL_law 41) X → zAl 43 (3 + e * 21317) (53 + e * 255830) X0 X → p4LI M t → zJW X 60 [(5, zI (e : Int)), (4, zR 40), (3, zR 39), (2, zR 38), (1, zR 27), (0, zR 60)] [] M
  | 0, e, X, M, t, hd, hc, ha, hLI => by
    have he : e = 26 := by omega
    subst he
    exact law_turn_a hc (hs.al ha) hL hLI _ (by omega) (fun _ => hend X M hc ha) (fun hlt => by exfalso; omega)
  | d + 1, e, X, M, t, hd, hc, ha, hLI => by
    refine law_turn_a hc (hs.al ha) hL hLI _ (by omega) (fun hle => by exfalso; omega) (fun hlt h kd r c vb hkd hi => ?_)
    refine law_turn_b hc ha (hcap.le (by omega) (by omega)) hn41 hn42 hLI h kd r c e vb (fun X2 M2 hc2 ha2 hLI2 h41 h42 => ?_)
    refine law_disp hc2 hLI2 h41 h42 e h kd r c vb hi hkd (fun M3 t3 hLI3 => ?_)
    refine law_turn_z hc2 (hs.al ha2) hL ha2 (hcap.le (by omega) (by omega)) hLI3 e h (by omega) (fun X4 M4 hc4 ha4 hLI4 => ?_)
    exact law_loop hs hL hcap hn41 hn42 hend d (e + 1) X4 M4 t3 (by omega) (zCx_less hc4 ⟨rfl, rfl, rfl, rfl, rfl, rfl⟩ (fun i hi => by simp only [decide_eq_true_eq] at hi ⊢; omega)) (ha4.le (by omega) (by omega)) hLI4

