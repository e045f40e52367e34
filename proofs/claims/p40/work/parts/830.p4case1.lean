set_option maxRecDepth 100000 in
set_option maxHeartbeats 4000000 in
theorem law_set {X : CX} {M : Mem} {t : TS} (hc : zCx (KL_law 43) X) (hLI : p4LI M t) (h41 : p4F (M 41) t) (h42 : p4P (M 42) t) (e h kd r c : Int) (vb : Bool) (hi : inT t r c = true) (hJ : ∀ (M1 : Mem) (t1 : TS), p4LI M1 t1 → zJW X 1384 [(13, zI 1), (6, zI h), (5, zI e), (4, zR 40), (3, zR 39), (2, zR 38), (1, zR 27), (0, zR 60)] [] M1)  : zJW X 166 [(14, zI 0), (13, zI 1), (12, zR 42), (11, zR 41), (10, zI (zbz vb)), (9, zI c), (8, zI r), (7, zI kd), (6, zI h), (5, zI e), (4, zR 40), (3, zR 39), (2, zR 38), (1, zR 27), (0, zR 60)] [] M := by
  obtain ⟨hX, ht, hO, hM⟩ := id hLI
  obtain ⟨hF, hP, hT⟩ := id hM
  obtain ⟨hO1, hO2, hO3, hO4, hO5⟩ := id hO
  have hT1 := hT.1
  have hT2 := hT.2.1
  have hib := inT_bd hi
  have hXb := p4Y_lo (M' := (beM M r c vb)) ⟨hX, ht⟩ (fun k hk => beM_off (by omega) (by omega))
  have hMb := be_M (v := vb) hO hM hi
  have hOs := TOk_S (r := r) (c := c) (b := vb) hO
  have hob := otS_bd (t' := t) hOs
  have zvb := zbz_bd vb
  refine z_ald (pc := 166) hc 12 rfl dL_law_166 ?_
  refine z_ald (pc := 167) hc 11 rfl dL_law_167 ?_
  refine z_ilw (pc := 168) hc 6 rfl dL_law_168 ?_
  refine z_ilw (pc := 170) hc 5 rfl dL_law_170 ?_
  refine z_ilw (pc := 172) hc 4 rfl dL_law_172 ?_
  refine kc_L_117 (pc := 174) hc rfl (zfitG (Nat.le_of_ble_eq_true rfl) (fun i hi => by first | cases hi | (simp only [zflX, zfl0, Bool.or_eq_true, decide_eq_true_eq] at hi ⊢; omega)) (fun h => by first | rfl | cases h)) (Nat.le_of_ble_eq_true rfl) (ct_L_become M t hF hO r c hi vb) dL_law_174 ?_
  refine z_pop (pc := 177) hc rfl dL_law_177 ?_
  refine z_ald (pc := 178) hc 13 rfl dL_law_178 ?_
  refine z_ilw (pc := 179) hc 6 rfl dL_law_179 ?_
  refine z_ilw (pc := 181) hc 5 rfl dL_law_181 ?_
  refine z_ilw (pc := 183) hc 4 rfl dL_law_183 ?_
  refine z_iconst (pc := 185) hc 1 dL_law_185 ?_
  have hJ194 : zJW X 194 [(14, zI 0), (13, zI 1), (12, zR 42), (11, zR 41), (10, zI (zbz vb)), (9, zI c), (8, zI r), (7, zI kd), (6, zI h), (5, zI e), (4, zR 40), (3, zR 39), (2, zR 38), (1, zR 27), (0, zR 60)] [zI (zbz vb), zI c, zI r, zR 27] (beM M r c vb) := by
    refine kg_L_121 (pc := 194) hc rfl (zfitG (Nat.le_of_ble_eq_true rfl) (fun i hi => by first | cases hi | (simp only [zflX, zfl0, Bool.or_eq_true, decide_eq_true_eq] at hi ⊢; omega)) (fun h => by first | rfl | cases h)) (by rfl) (Nat.le_of_ble_eq_true rfl) (ct_X5_set (beM M r c vb) hXb.1 r (by omega) c (by omega) vb) dL_law_194 (fun zr M1 hq => ?_)
    obtain ⟨rfl, hY⟩ := qi_set hXb.1 hXb.2 hO hi hq
    have hM1 := p4M_hi hMb hY.2.2
    have h41a : p4F (M1 41) t := by rw [hY.2.2 41 (by decide), beM_off (by decide) (by decide)]; exact h41
    have h42a : p4P (M1 42) t := by rw [hY.2.2 42 (by decide), beM_off (by decide) (by decide)]; exact h42
    show zJW X 197 [(14, zI 0), (13, zI 1), (12, zR 42), (11, zR 41), (10, zI (zbz vb)), (9, zI c), (8, zI r), (7, zI kd), (6, zI h), (5, zI e), (4, zR 40), (3, zR 39), (2, zR 38), (1, zR 27), (0, zR 60)] [zI (otS (tsS t r c vb) t)] M1
    refine z_ald (pc := 197) hc 12 rfl dL_law_197 ?_
    refine z_ald (pc := 198) hc 11 rfl dL_law_198 ?_
    refine z_alw (pc := 199) hc 3 rfl dL_law_199 ?_
    refine z_alw (pc := 201) hc 2 rfl dL_law_201 ?_
    refine z_alw (pc := 203) hc 10 rfl dL_law_203 ?_
    refine kc_L_124 (pc := 205) hc rfl (zfitG (Nat.le_of_ble_eq_true rfl) (fun i hi => by first | cases hi | (simp only [zflX, zfl0, Bool.or_eq_true, decide_eq_true_eq] at hi ⊢; omega)) (fun h => by first | rfl | cases h)) (Nat.le_of_ble_eq_true rfl) (ct_L_other M1 (tsS t r c vb) t hM1.1 hM1.2.1 h41a h42a hOs hO ⟨tsS_d.1.symm, tsS_d.2.1.symm⟩ ⟨hM1.2.2.1, hM1.2.2.2.1⟩) dL_law_205 ?_
    refine z_cne (pc := 208) (tgt := 215) hc (by omega) (by decide) dL_law_208 (fun h208 => ?_) (fun h208 => ?_)
    · exfalso; omega
    · show zJW X 211 [(14, zI 0), (13, zI 1), (12, zR 42), (11, zR 41), (10, zI (zbz vb)), (9, zI c), (8, zI r), (7, zI kd), (6, zI h), (5, zI e), (4, zR 40), (3, zR 39), (2, zR 38), (1, zR 27), (0, zR 60)] [] M1
      refine z_iconst (pc := 211) hc 1 dL_law_211 ?_
      refine z_goto (pc := 212) (tgt := 216) hc (by decide) dL_law_212 ?_
      refine z_isw (pc := 216) (lv' := [(13, zI 1), (14, zI 0), (12, zR 42), (11, zR 41), (10, zI (zbz vb)), (9, zI c), (8, zI r), (7, zI kd), (6, zI h), (5, zI e), (4, zR 40), (3, zR 39), (2, zR 38), (1, zR 27), (0, zR 60)]) hc rfl (Nat.le_of_ble_eq_true rfl) dL_law_216 ?_
      refine z_goto (pc := 218) (tgt := 1384) hc (by decide) dL_law_218 ?_
      refine zJW_sub (lv' := [(13, zI 1), (6, zI h), (5, zI e), (4, zR 40), (3, zR 39), (2, zR 38), (1, zR 27), (0, zR 60)]) [0, 8, 9, 10, 11, 12, 13, 14] rfl ?_
      exact hJ M1 (tsS t r c vb) ⟨hY.1, hY.2.1, hOs, hM1⟩
  refine z_cne (pc := 186) (tgt := 193) hc (by omega) (by decide) dL_law_186 (fun h186 => ?_) (fun h186 => ?_)
  · show zJW X 193 [(14, zI 0), (13, zI 1), (12, zR 42), (11, zR 41), (10, zI (zbz vb)), (9, zI c), (8, zI r), (7, zI kd), (6, zI h), (5, zI e), (4, zR 40), (3, zR 39), (2, zR 38), (1, zR 27), (0, zR 60)] [zI c, zI r, zR 27] (beM M r c vb)
    refine z_iconst (pc := 193) hc 0 dL_law_193 ?_
    exact zJW_eq (by rfl) (by first | exact p4_zz1 h186 | exact p4_zz0 h186) (by rfl) hJ194
  · show zJW X 189 [(14, zI 0), (13, zI 1), (12, zR 42), (11, zR 41), (10, zI (zbz vb)), (9, zI c), (8, zI r), (7, zI kd), (6, zI h), (5, zI e), (4, zR 40), (3, zR 39), (2, zR 38), (1, zR 27), (0, zR 60)] [zI c, zI r, zR 27] (beM M r c vb)
    refine z_iconst (pc := 189) hc 1 dL_law_189 ?_
    refine z_goto (pc := 190) (tgt := 194) hc (by decide) dL_law_190 ?_
    exact zJW_eq (by rfl) (by first | exact p4_zz1 h186 | exact p4_zz0 h186) (by rfl) hJ194

set_option maxRecDepth 100000 in
set_option maxHeartbeats 4000000 in
theorem law_out {X : CX} {M : Mem} {t : TS} (hc : zCx (KL_law 43) X) (hLI : p4LI M t) (h41 : p4F (M 41) t) (h42 : p4P (M 42) t) (e h kd r c : Int) (vb : Bool) (hi : inT t r c = true) (hJ : ∀ (M1 : Mem) (t1 : TS), p4LI M1 t1 → zJW X 1384 [(13, zI 1), (6, zI h), (5, zI e), (4, zR 40), (3, zR 39), (2, zR 38), (1, zR 27), (0, zR 60)] [] M1)  : zJW X 1028 [(14, zI 0), (13, zI 1), (12, zR 42), (11, zR 41), (10, zI (zbz vb)), (9, zI c), (8, zI r), (7, zI kd), (6, zI h), (5, zI e), (4, zR 40), (3, zR 39), (2, zR 38), (1, zR 27), (0, zR 60)] [] M := by
  obtain ⟨hX, ht, hO, hM⟩ := id hLI
  obtain ⟨hF, hP, hT⟩ := id hM
  obtain ⟨hO1, hO2, hO3, hO4, hO5⟩ := id hO
  have hT1 := hT.1
  have hT2 := hT.2.1
  have hib := inT_bd hi
  obtain ⟨ob, hob⟩ := zbz_mod2 (zan (zsr h 15) 2147483647)
  have zob := zbz_bd ob
  have hMb := fr_out (b := ob) hO hM
  have hXb := p4Y_lo (M' := (frM (zup M 40 2 (zbz ob)) 38 40 14)) ⟨hX, ht⟩ (fun k hk => (frM_off (by omega)).trans (zup_ne (by omega)))
  have hOs := TOk_O (b := ob) hO
  have hobd := otS_bd (t' := t) hOs
  have e40 : (frM (zup M 40 2 (zbz ob)) 38 40 14) 40 2 = zbz ob := by rw [frM_off (by decide), zup_at]
  refine z_alw (pc := 1028) hc 10 rfl dL_law_1028 ?_
  refine z_iconst (pc := 1030) hc 2 dL_law_1030 ?_
  refine z_ilw (pc := 1031) hc 8 rfl dL_law_1031 ?_
  refine z_bipush (pc := 1033) hc 15 (by decide) dL_law_1033 ?_
  refine z_ishr (pc := 1035) hc dL_law_1035 ?_
  refine z_iconst (pc := 1036) hc 2 dL_law_1036 ?_
  refine kc_L_73 (pc := 1037) hc rfl (zfitG (Nat.le_of_ble_eq_true rfl) (fun i hi => by first | cases hi | (simp only [zflX, zfl0, Bool.or_eq_true, decide_eq_true_eq] at hi ⊢; omega)) (fun h => by first | rfl | cases h)) (Nat.le_of_ble_eq_true rfl) (ct_L_low M (zsr h 15) 2 (by omega)) dL_law_1037 ?_
  refine zJW_eq (st' := [zI (zbz ob), zI 2, zR 40]) rfl (by rw [hob]) rfl ?_
  refine z_iast (pc := 1040) hc (by decide) rfl rfl (by decide) (by omega) dL_law_1040 ?_
  refine z_ald (pc := 1041) hc 12 rfl dL_law_1041 ?_
  refine z_alw (pc := 1042) hc 10 rfl dL_law_1042 ?_
  refine kc_L_138 (pc := 1044) hc rfl (zfitG (Nat.le_of_ble_eq_true rfl) (fun i hi => by first | cases hi | (simp only [zflX, zfl0, Bool.or_eq_true, decide_eq_true_eq] at hi ⊢; omega)) (fun h => by first | rfl | cases h)) (Nat.le_of_ble_eq_true rfl) (ct_L_frame (zup M 40 2 (zbz ob)) (by rw [zup_off (by decide), zup_off (by decide)]; omega) (by rw [zup_at]; exact zbz_cases ob)) dL_law_1044 ?_
  refine z_ald (pc := 1047) hc 13 rfl dL_law_1047 ?_
  refine z_alw (pc := 1048) hc 10 rfl dL_law_1048 ?_
  refine z_iconst (pc := 1050) hc 2 dL_law_1050 ?_
  refine z_iald (pc := 1051) hc (by decide) rfl rfl (by decide) (by omega) dL_law_1051 ?_
  refine zJW_eq (st' := [zI (zbz ob), zR 27]) rfl (by rw [e40]) rfl ?_
  refine z_iconst (pc := 1052) hc 1 dL_law_1052 ?_
  have hJ1061 : zJW X 1061 [(14, zI 0), (13, zI 1), (12, zR 42), (11, zR 41), (10, zI (zbz vb)), (9, zI c), (8, zI r), (7, zI kd), (6, zI h), (5, zI e), (4, zR 40), (3, zR 39), (2, zR 38), (1, zR 27), (0, zR 60)] [zI (zbz ob), zR 27] (frM (zup M 40 2 (zbz ob)) 38 40 14) := by
    refine kg_L_147 (pc := 1061) hc rfl (zfitG (Nat.le_of_ble_eq_true rfl) (fun i hi => by first | cases hi | (simp only [zflX, zfl0, Bool.or_eq_true, decide_eq_true_eq] at hi ⊢; omega)) (fun h => by first | rfl | cases h)) (by rfl) (Nat.le_of_ble_eq_true rfl) (ct_X5_setOutside (frM (zup M 40 2 (zbz ob)) 38 40 14) hXb.1 ob) dL_law_1061 (fun zr M1 hq => ?_)
    obtain ⟨rfl, hY⟩ := qi_out hXb.1 hXb.2 hO hq
    have hM1 := p4M_hi hMb hY.2.2
    have h41a : p4F (M1 41) t := by rw [hY.2.2 41 (by decide), frM_off (by decide), zup_ne (by decide)]; exact h41
    have h42a : p4P (M1 42) t := by rw [hY.2.2 42 (by decide), frM_off (by decide), zup_ne (by decide)]; exact h42
    show zJW X 1064 [(14, zI 0), (13, zI 1), (12, zR 42), (11, zR 41), (10, zI (zbz vb)), (9, zI c), (8, zI r), (7, zI kd), (6, zI h), (5, zI e), (4, zR 40), (3, zR 39), (2, zR 38), (1, zR 27), (0, zR 60)] [zI (otS (tsO t ob) t)] M1
    refine z_ald (pc := 1064) hc 12 rfl dL_law_1064 ?_
    refine z_ald (pc := 1065) hc 11 rfl dL_law_1065 ?_
    refine z_alw (pc := 1066) hc 3 rfl dL_law_1066 ?_
    refine z_alw (pc := 1068) hc 2 rfl dL_law_1068 ?_
    refine z_alw (pc := 1070) hc 10 rfl dL_law_1070 ?_
    refine kc_L_124 (pc := 1072) hc rfl (zfitG (Nat.le_of_ble_eq_true rfl) (fun i hi => by first | cases hi | (simp only [zflX, zfl0, Bool.or_eq_true, decide_eq_true_eq] at hi ⊢; omega)) (fun h => by first | rfl | cases h)) (Nat.le_of_ble_eq_true rfl) (ct_L_other M1 (tsO t ob) t hM1.1 hM1.2.1 h41a h42a hOs hO ⟨rfl, rfl⟩ ⟨hM1.2.2.1, hM1.2.2.2.1⟩) dL_law_1072 ?_
    refine z_cne (pc := 1075) (tgt := 1082) hc (by omega) (by decide) dL_law_1075 (fun h1075 => ?_) (fun h1075 => ?_)
    · exfalso; omega
    · show zJW X 1078 [(14, zI 0), (13, zI 1), (12, zR 42), (11, zR 41), (10, zI (zbz vb)), (9, zI c), (8, zI r), (7, zI kd), (6, zI h), (5, zI e), (4, zR 40), (3, zR 39), (2, zR 38), (1, zR 27), (0, zR 60)] [] M1
      refine z_iconst (pc := 1078) hc 1 dL_law_1078 ?_
      refine z_goto (pc := 1079) (tgt := 1083) hc (by decide) dL_law_1079 ?_
      refine z_isw (pc := 1083) (lv' := [(13, zI 1), (14, zI 0), (12, zR 42), (11, zR 41), (10, zI (zbz vb)), (9, zI c), (8, zI r), (7, zI kd), (6, zI h), (5, zI e), (4, zR 40), (3, zR 39), (2, zR 38), (1, zR 27), (0, zR 60)]) hc rfl (Nat.le_of_ble_eq_true rfl) dL_law_1083 ?_
      refine z_goto (pc := 1085) (tgt := 1384) hc (by decide) dL_law_1085 ?_
      refine zJW_sub (lv' := [(13, zI 1), (6, zI h), (5, zI e), (4, zR 40), (3, zR 39), (2, zR 38), (1, zR 27), (0, zR 60)]) [0, 8, 9, 10, 11, 12, 13, 14] rfl ?_
      exact hJ M1 (tsO t ob) ⟨hY.1, hY.2.1, hOs, hM1⟩
  refine z_cne (pc := 1053) (tgt := 1060) hc (by omega) (by decide) dL_law_1053 (fun h1053 => ?_) (fun h1053 => ?_)
  · show zJW X 1060 [(14, zI 0), (13, zI 1), (12, zR 42), (11, zR 41), (10, zI (zbz vb)), (9, zI c), (8, zI r), (7, zI kd), (6, zI h), (5, zI e), (4, zR 40), (3, zR 39), (2, zR 38), (1, zR 27), (0, zR 60)] [zR 27] (frM (zup M 40 2 (zbz ob)) 38 40 14)
    refine z_iconst (pc := 1060) hc 0 dL_law_1060 ?_
    exact zJW_eq (by rfl) (by first | exact p4_zz1 h1053 | exact p4_zz0 h1053) (by rfl) hJ1061
  · show zJW X 1056 [(14, zI 0), (13, zI 1), (12, zR 42), (11, zR 41), (10, zI (zbz vb)), (9, zI c), (8, zI r), (7, zI kd), (6, zI h), (5, zI e), (4, zR 40), (3, zR 39), (2, zR 38), (1, zR 27), (0, zR 60)] [zR 27] (frM (zup M 40 2 (zbz ob)) 38 40 14)
    refine z_iconst (pc := 1056) hc 1 dL_law_1056 ?_
    refine z_goto (pc := 1057) (tgt := 1061) hc (by decide) dL_law_1057 ?_
    exact zJW_eq (by rfl) (by first | exact p4_zz1 h1053 | exact p4_zz0 h1053) (by rfl) hJ1061

