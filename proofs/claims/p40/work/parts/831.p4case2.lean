set_option maxRecDepth 100000 in
set_option maxHeartbeats 4000000 in
theorem law_pin {X : CX} {M : Mem} {t : TS} (hc : zCx (KL_law 43) X) (hLI : p4LI M t) (h41 : p4F (M 41) t) (h42 : p4P (M 42) t) (e h kd r c : Int) (vb : Bool) (hi : inT t r c = true) (hJ : ∀ (M1 : Mem) (t1 : TS), p4LI M1 t1 → zJW X 1384 [(13, zI 1), (6, zI h), (5, zI e), (4, zR 40), (3, zR 39), (2, zR 38), (1, zR 27), (0, zR 60)] [] M1)  : zJW X 1228 [(14, zI 0), (13, zI 1), (12, zR 42), (11, zR 41), (10, zI (zbz vb)), (9, zI c), (8, zI r), (7, zI kd), (6, zI h), (5, zI e), (4, zR 40), (3, zR 39), (2, zR 38), (1, zR 27), (0, zR 60)] [] M := by
  obtain ⟨hX, ht, hO, hM⟩ := id hLI
  obtain ⟨hF, hP, hT⟩ := id hM
  obtain ⟨hO1, hO2, hO3, hO4, hO5⟩ := id hO
  have hT1 := hT.1
  have hT2 := hT.2.1
  have hib := inT_bd hi
  have hlb := zbz_bd (laT t r c)
  have hrm : 0 ≤ rdZ (arT t r c) ∧ rdZ (arT t r c) < 256 := rdZ_any _
  refine z_ilw (pc := 1228) hc 8 rfl dL_law_1228 ?_
  refine z_bipush (pc := 1230) hc 15 (by decide) dL_law_1230 ?_
  refine z_ishr (pc := 1232) hc dL_law_1232 ?_
  refine z_bipush (pc := 1233) hc 47 (by decide) dL_law_1233 ?_
  refine kc_L_73 (pc := 1235) hc rfl (zfitG (Nat.le_of_ble_eq_true rfl) (fun i hi => by first | cases hi | (simp only [zflX, zfl0, Bool.or_eq_true, decide_eq_true_eq] at hi ⊢; omega)) (fun h => by first | rfl | cases h)) (Nat.le_of_ble_eq_true rfl) (ct_L_low M (zsr h 15) 47 (by omega)) dL_law_1235 ?_
  refine z_isw (pc := 1238) (lv' := [(15, zI (zan (zsr h 15) 2147483647 % 47)), (14, zI 0), (13, zI 1), (12, zR 42), (11, zR 41), (10, zI (zbz vb)), (9, zI c), (8, zI r), (7, zI kd), (6, zI h), (5, zI e), (4, zR 40), (3, zR 39), (2, zR 38), (1, zR 27), (0, zR 60)]) hc rfl (Nat.le_of_ble_eq_true rfl) dL_law_1238 ?_
  obtain ⟨s, hs9⟩ : ∃ s : Int, s = (zan (zsr h 15) 2147483647 % 47) := ⟨_, rfl⟩
  have hs : 0 ≤ s ∧ s < 47 := by omega
  have hmk := mkZ_bd hs
  refine zJW_eq (lv' := [(15, zI s), (14, zI 0), (13, zI 1), (12, zR 42), (11, zR 41), (10, zI (zbz vb)), (9, zI c), (8, zI r), (7, zI kd), (6, zI h), (5, zI e), (4, zR 40), (3, zR 39), (2, zR 38), (1, zR 27), (0, zR 60)]) (by rw [hs9]) rfl rfl ?_
  refine z_ald (pc := 1240) hc 13 rfl dL_law_1240 ?_
  refine z_ilw (pc := 1241) hc 7 rfl dL_law_1241 ?_
  refine z_ilw (pc := 1243) hc 6 rfl dL_law_1243 ?_
  refine kc_L_19 (pc := 1245) hc rfl (zfitG (Nat.le_of_ble_eq_true rfl) (fun i hi => by first | cases hi | (simp only [zflX, zfl0, Bool.or_eq_true, decide_eq_true_eq] at hi ⊢; omega)) (fun h => by first | rfl | cases h)) (Nat.le_of_ble_eq_true rfl) (ct_L_landT M 38 (Or.inl rfl) t hF hO r c (by omega)) dL_law_1245 ?_
  refine z_iconst (pc := 1248) hc 1 dL_law_1248 ?_
  refine z_cne (pc := 1249) (tgt := 1256) hc (by omega) (by decide) dL_law_1249 (fun h1249 => ?_) (fun h1249 => ?_)
  · show zJW X 1256 [(15, zI s), (14, zI 0), (13, zI 1), (12, zR 42), (11, zR 41), (10, zI (zbz vb)), (9, zI c), (8, zI r), (7, zI kd), (6, zI h), (5, zI e), (4, zR 40), (3, zR 39), (2, zR 38), (1, zR 27), (0, zR 60)] [] M
    refine z_iconst (pc := 1256) hc 0 dL_law_1256 ?_
    refine z_isw (pc := 1257) (lv' := [(16, zI 0), (15, zI s), (14, zI 0), (13, zI 1), (12, zR 42), (11, zR 41), (10, zI (zbz vb)), (9, zI c), (8, zI r), (7, zI kd), (6, zI h), (5, zI e), (4, zR 40), (3, zR 39), (2, zR 38), (1, zR 27), (0, zR 60)]) hc rfl (Nat.le_of_ble_eq_true rfl) dL_law_1257 ?_
    refine z_ald (pc := 1259) hc 13 rfl dL_law_1259 ?_
    refine z_ilw (pc := 1260) hc 8 rfl dL_law_1260 ?_
    refine z_ilw (pc := 1262) hc 7 rfl dL_law_1262 ?_
    refine z_ilw (pc := 1264) hc 0 rfl dL_law_1264 ?_
    refine z_ieq (pc := 1266) (tgt := 1274) hc (by omega) (by decide) dL_law_1266 (fun h1266 => ?_) (fun h1266 => ?_)
    · show zJW X 1274 [(16, zI 0), (15, zI s), (14, zI 0), (13, zI 1), (12, zR 42), (11, zR 41), (10, zI (zbz vb)), (9, zI c), (8, zI r), (7, zI kd), (6, zI h), (5, zI e), (4, zR 40), (3, zR 39), (2, zR 38), (1, zR 27), (0, zR 60)] [zI c, zI r, zR 39] M
      refine z_bipush (pc := 1274) hc 63 (by decide) dL_law_1274 ?_
      refine kc_L_104 (pc := 1276) hc rfl (zfitG (Nat.le_of_ble_eq_true rfl) (fun i hi => by first | cases hi | (simp only [zflX, zfl0, Bool.or_eq_true, decide_eq_true_eq] at hi ⊢; omega)) (fun h => by first | rfl | cases h)) (Nat.le_of_ble_eq_true rfl) (ct_L_layPin M 39 (Or.inl rfl) r c 63 (by omega) (by omega)) dL_law_1276 ?_
      have hl : laT t r c = false := by
        cases hb : laT t r c
        · rfl
        · exact absurd (p4_b0 h1249 hb) id
      have hMb := lp_M (s := -1) (x := 63) hO hM hi (by rw [if_pos rfl]) (by omega)
      rw [tsP_none hi ((hO5 r c).resolve_right (fun h => by rw [hl] at h; exact absurd h.2.2 (by decide)))] at hMb
      have hOs := hO
      have hXb := p4Y_lo (M' := (zup M 39 (3 * r + c / 4) (lpV (M 39 (3 * r + c / 4)) c 63))) ⟨hX, ht⟩ (fun k hk => zup_ne (by omega))
      refine z_ald (pc := 1279) hc 15 rfl dL_law_1279 ?_
      refine z_ilw (pc := 1280) hc 8 rfl dL_law_1280 ?_
      refine z_ilw (pc := 1282) hc 7 rfl dL_law_1282 ?_
      refine z_ilw (pc := 1284) hc 1 rfl dL_law_1284 ?_
      refine kg_L_154 (pc := 1286) hc rfl (zfitG (Nat.le_of_ble_eq_true rfl) (fun i hi => by first | cases hi | (simp only [zflX, zfl0, Bool.or_eq_true, decide_eq_true_eq] at hi ⊢; omega)) (fun h => by first | rfl | cases h)) (by rfl) (Nat.le_of_ble_eq_true rfl) (ct_X5_pin (zup M 39 (3 * r + c / 4) (lpV (M 39 (3 * r + c / 4)) c 63)) hXb.1 r (by omega) c (by omega) s (by omega)) dL_law_1286 (fun zr M1 hq => ?_)
      obtain ⟨rfl, hY⟩ := qi_pin0 hXb.2 hXb.1 hi hl hs hq
      have hM1 := p4M_hi hMb hY.2.2
      show zJW X 1289 [(16, zI 0), (15, zI s), (14, zI 0), (13, zI 1), (12, zR 42), (11, zR 41), (10, zI (zbz vb)), (9, zI c), (8, zI r), (7, zI kd), (6, zI h), (5, zI e), (4, zR 40), (3, zR 39), (2, zR 38), (1, zR 27), (0, zR 60)] [zI (-3)] M1
      refine z_ilw (pc := 1289) hc 0 rfl dL_law_1289 ?_
      refine z_ieq (pc := 1291) (tgt := 1317) hc (by omega) (by decide) dL_law_1291 (fun h1291 => ?_) (fun h1291 => ?_)
      · show zJW X 1317 [(16, zI 0), (15, zI s), (14, zI 0), (13, zI 1), (12, zR 42), (11, zR 41), (10, zI (zbz vb)), (9, zI c), (8, zI r), (7, zI kd), (6, zI h), (5, zI e), (4, zR 40), (3, zR 39), (2, zR 38), (1, zR 27), (0, zR 60)] [zI (-3)] M1
        refine z_bipush (pc := 1317) hc (-3) (by decide) dL_law_1317 ?_
        refine z_cne (pc := 1319) (tgt := 1326) hc (by have hbb := bcZ_bd (zxr_bd (a := mkZ s) (b := rdZ (arT t r c)) (by omega) (by omega)); omega) (by decide) dL_law_1319 (fun h1319 => ?_) (fun h1319 => ?_)
        · exfalso; omega
        · show zJW X 1322 [(16, zI 0), (15, zI s), (14, zI 0), (13, zI 1), (12, zR 42), (11, zR 41), (10, zI (zbz vb)), (9, zI c), (8, zI r), (7, zI kd), (6, zI h), (5, zI e), (4, zR 40), (3, zR 39), (2, zR 38), (1, zR 27), (0, zR 60)] [] M1
          refine z_iconst (pc := 1322) hc 1 dL_law_1322 ?_
          refine z_goto (pc := 1323) (tgt := 1327) hc (by decide) dL_law_1323 ?_
          refine z_isw (pc := 1327) (lv' := [(13, zI 1), (16, zI 0), (15, zI s), (14, zI 0), (12, zR 42), (11, zR 41), (10, zI (zbz vb)), (9, zI c), (8, zI r), (7, zI kd), (6, zI h), (5, zI e), (4, zR 40), (3, zR 39), (2, zR 38), (1, zR 27), (0, zR 60)]) hc rfl (Nat.le_of_ble_eq_true rfl) dL_law_1327 ?_
          refine z_goto (pc := 1329) (tgt := 1384) hc (by decide) dL_law_1329 ?_
          refine zJW_sub (lv' := [(13, zI 1), (6, zI h), (5, zI e), (4, zR 40), (3, zR 39), (2, zR 38), (1, zR 27), (0, zR 60)]) [0, 10, 11, 12, 13, 14, 15, 16] rfl ?_
          exact hJ M1 _ ⟨hY.1, hY.2.1, hOs, hM1⟩
      · exfalso; omega
    · exfalso; omega
  · show zJW X 1252 [(15, zI s), (14, zI 0), (13, zI 1), (12, zR 42), (11, zR 41), (10, zI (zbz vb)), (9, zI c), (8, zI r), (7, zI kd), (6, zI h), (5, zI e), (4, zR 40), (3, zR 39), (2, zR 38), (1, zR 27), (0, zR 60)] [] M
    refine z_iconst (pc := 1252) hc 1 dL_law_1252 ?_
    refine z_goto (pc := 1253) (tgt := 1257) hc (by decide) dL_law_1253 ?_
    refine z_isw (pc := 1257) (lv' := [(16, zI 1), (15, zI s), (14, zI 0), (13, zI 1), (12, zR 42), (11, zR 41), (10, zI (zbz vb)), (9, zI c), (8, zI r), (7, zI kd), (6, zI h), (5, zI e), (4, zR 40), (3, zR 39), (2, zR 38), (1, zR 27), (0, zR 60)]) hc rfl (Nat.le_of_ble_eq_true rfl) dL_law_1257 ?_
    refine z_ald (pc := 1259) hc 13 rfl dL_law_1259 ?_
    refine z_ilw (pc := 1260) hc 8 rfl dL_law_1260 ?_
    refine z_ilw (pc := 1262) hc 7 rfl dL_law_1262 ?_
    refine z_ilw (pc := 1264) hc 0 rfl dL_law_1264 ?_
    refine z_ieq (pc := 1266) (tgt := 1274) hc (by omega) (by decide) dL_law_1266 (fun h1266 => ?_) (fun h1266 => ?_)
    · exfalso; omega
    · show zJW X 1269 [(16, zI 1), (15, zI s), (14, zI 0), (13, zI 1), (12, zR 42), (11, zR 41), (10, zI (zbz vb)), (9, zI c), (8, zI r), (7, zI kd), (6, zI h), (5, zI e), (4, zR 40), (3, zR 39), (2, zR 38), (1, zR 27), (0, zR 60)] [zI c, zI r, zR 39] M
      refine z_ilw (pc := 1269) hc 1 rfl dL_law_1269 ?_
      refine z_goto (pc := 1271) (tgt := 1276) hc (by decide) dL_law_1271 ?_
      refine kc_L_104 (pc := 1276) hc rfl (zfitG (Nat.le_of_ble_eq_true rfl) (fun i hi => by first | cases hi | (simp only [zflX, zfl0, Bool.or_eq_true, decide_eq_true_eq] at hi ⊢; omega)) (fun h => by first | rfl | cases h)) (Nat.le_of_ble_eq_true rfl) (ct_L_layPin M 39 (Or.inl rfl) r c s (by omega) (by omega)) dL_law_1276 ?_
      have hl : laT t r c = true := p4_b1 h1249
      have hMb := lp_M (s := s) (x := s) hO hM hi (by rw [if_neg (by omega)]) (by omega)
      have hOs := TOk_P (s := s) hO (Or.inr ⟨hs.1, hs.2, hl⟩)
      have hXb := p4Y_lo (M' := (zup M 39 (3 * r + c / 4) (lpV (M 39 (3 * r + c / 4)) c s))) ⟨hX, ht⟩ (fun k hk => zup_ne (by omega))
      refine z_ald (pc := 1279) hc 15 rfl dL_law_1279 ?_
      refine z_ilw (pc := 1280) hc 8 rfl dL_law_1280 ?_
      refine z_ilw (pc := 1282) hc 7 rfl dL_law_1282 ?_
      refine z_ilw (pc := 1284) hc 1 rfl dL_law_1284 ?_
      refine kg_L_154 (pc := 1286) hc rfl (zfitG (Nat.le_of_ble_eq_true rfl) (fun i hi => by first | cases hi | (simp only [zflX, zfl0, Bool.or_eq_true, decide_eq_true_eq] at hi ⊢; omega)) (fun h => by first | rfl | cases h)) (by rfl) (Nat.le_of_ble_eq_true rfl) (ct_X5_pin (zup M 39 (3 * r + c / 4) (lpV (M 39 (3 * r + c / 4)) c s)) hXb.1 r (by omega) c (by omega) s (by omega)) dL_law_1286 (fun zr M1 hq => ?_)
      obtain ⟨rfl, hY⟩ := qi_pin hXb.1 hXb.2 hi hl hs hq
      have hM1 := p4M_hi hMb hY.2.2
      have hF1 : p4F (M1 38) t := by rw [hY.2.2 38 (by decide), zup_ne (by decide)]; exact hF
      show zJW X 1289 [(16, zI 1), (15, zI s), (14, zI 0), (13, zI 1), (12, zR 42), (11, zR 41), (10, zI (zbz vb)), (9, zI c), (8, zI r), (7, zI kd), (6, zI h), (5, zI e), (4, zR 40), (3, zR 39), (2, zR 38), (1, zR 27), (0, zR 60)] [zI (bcZ (zxr (mkZ s) (rdZ (arT t r c))))] M1
      refine z_ilw (pc := 1289) hc 0 rfl dL_law_1289 ?_
      refine z_ieq (pc := 1291) (tgt := 1317) hc (by omega) (by decide) dL_law_1291 (fun h1291 => ?_) (fun h1291 => ?_)
      · exfalso; omega
      · show zJW X 1294 [(16, zI 1), (15, zI s), (14, zI 0), (13, zI 1), (12, zR 42), (11, zR 41), (10, zI (zbz vb)), (9, zI c), (8, zI r), (7, zI kd), (6, zI h), (5, zI e), (4, zR 40), (3, zR 39), (2, zR 38), (1, zR 27), (0, zR 60)] [zI (bcZ (zxr (mkZ s) (rdZ (arT t r c))))] M1
        refine z_ilw (pc := 1294) hc 1 rfl dL_law_1294 ?_
        refine kc_L_29 (pc := 1296) hc rfl (zfitG (Nat.le_of_ble_eq_true rfl) (fun i hi => by first | cases hi | (simp only [zflX, zfl0, Bool.or_eq_true, decide_eq_true_eq] at hi ⊢; omega)) (fun h => by first | rfl | cases h)) (Nat.le_of_ble_eq_true rfl) (ct_L_mask M1 s hs) dL_law_1296 ?_
        refine z_ald (pc := 1299) hc 14 rfl dL_law_1299 ?_
        refine z_ilw (pc := 1300) hc 8 rfl dL_law_1300 ?_
        refine z_ilw (pc := 1302) hc 7 rfl dL_law_1302 ?_
        refine kc_L_32 (pc := 1304) hc rfl (zfitG (Nat.le_of_ble_eq_true rfl) (fun i hi => by first | cases hi | (simp only [zflX, zfl0, Bool.or_eq_true, decide_eq_true_eq] at hi ⊢; omega)) (fun h => by first | rfl | cases h)) (Nat.le_of_ble_eq_true rfl) (ct_L_around M1 38 (Or.inl rfl) t hF1 hO r c hi) dL_law_1304 ?_
        refine kc_L_23 (pc := 1307) hc rfl (zfitG (Nat.le_of_ble_eq_true rfl) (fun i hi => by first | cases hi | (simp only [zflX, zfl0, Bool.or_eq_true, decide_eq_true_eq] at hi ⊢; omega)) (fun h => by first | rfl | cases h)) (Nat.le_of_ble_eq_true rfl) (ct_L_regular M1 (arT t r c) (arT_bd _ _ _)) dL_law_1307 ?_
        refine z_ixor (pc := 1310) hc dL_law_1310 ?_
        refine kc_L_41 (pc := 1311) hc rfl (zfitG (Nat.le_of_ble_eq_true rfl) (fun i hi => by first | cases hi | (simp only [zflX, zfl0, Bool.or_eq_true, decide_eq_true_eq] at hi ⊢; omega)) (fun h => by first | rfl | cases h)) (Nat.le_of_ble_eq_true rfl) (ct_L_bits M1 (zxr (mkZ s) (rdZ (arT t r c))) (zxr_bd (by omega) (rdZ_any _))) dL_law_1311 ?_
        refine z_goto (pc := 1314) (tgt := 1319) hc (by decide) dL_law_1314 ?_
        refine z_cne (pc := 1319) (tgt := 1326) hc (by have hbb := bcZ_bd (zxr_bd (a := mkZ s) (b := rdZ (arT t r c)) (by omega) (by omega)); omega) (by decide) dL_law_1319 (fun h1319 => ?_) (fun h1319 => ?_)
        · exfalso; omega
        · show zJW X 1322 [(16, zI 1), (15, zI s), (14, zI 0), (13, zI 1), (12, zR 42), (11, zR 41), (10, zI (zbz vb)), (9, zI c), (8, zI r), (7, zI kd), (6, zI h), (5, zI e), (4, zR 40), (3, zR 39), (2, zR 38), (1, zR 27), (0, zR 60)] [] M1
          refine z_iconst (pc := 1322) hc 1 dL_law_1322 ?_
          refine z_goto (pc := 1323) (tgt := 1327) hc (by decide) dL_law_1323 ?_
          refine z_isw (pc := 1327) (lv' := [(13, zI 1), (16, zI 1), (15, zI s), (14, zI 0), (12, zR 42), (11, zR 41), (10, zI (zbz vb)), (9, zI c), (8, zI r), (7, zI kd), (6, zI h), (5, zI e), (4, zR 40), (3, zR 39), (2, zR 38), (1, zR 27), (0, zR 60)]) hc rfl (Nat.le_of_ble_eq_true rfl) dL_law_1327 ?_
          refine z_goto (pc := 1329) (tgt := 1384) hc (by decide) dL_law_1329 ?_
          refine zJW_sub (lv' := [(13, zI 1), (6, zI h), (5, zI e), (4, zR 40), (3, zR 39), (2, zR 38), (1, zR 27), (0, zR 60)]) [0, 10, 11, 12, 13, 14, 15, 16] rfl ?_
          exact hJ M1 _ ⟨hY.1, hY.2.1, hOs, hM1⟩

set_option maxRecDepth 100000 in
set_option maxHeartbeats 4000000 in
theorem law_unpin {X : CX} {M : Mem} {t : TS} (hc : zCx (KL_law 43) X) (hLI : p4LI M t) (h41 : p4F (M 41) t) (h42 : p4P (M 42) t) (e h kd r c : Int) (vb : Bool) (hi : inT t r c = true) (hJ : ∀ (M1 : Mem) (t1 : TS), p4LI M1 t1 → zJW X 1384 [(13, zI 1), (6, zI h), (5, zI e), (4, zR 40), (3, zR 39), (2, zR 38), (1, zR 27), (0, zR 60)] [] M1)  : zJW X 1332 [(14, zI 0), (13, zI 1), (12, zR 42), (11, zR 41), (10, zI (zbz vb)), (9, zI c), (8, zI r), (7, zI kd), (6, zI h), (5, zI e), (4, zR 40), (3, zR 39), (2, zR 38), (1, zR 27), (0, zR 60)] [] M := by
  obtain ⟨hX, ht, hO, hM⟩ := id hLI
  obtain ⟨hF, hP, hT⟩ := id hM
  obtain ⟨hO1, hO2, hO3, hO4, hO5⟩ := id hO
  have hT1 := hT.1
  have hT2 := hT.2.1
  have hib := inT_bd hi
  have hpc := p4_pc hO r c
  have hMb := lp_M (s := -1) (x := 63) hO hM hi (by rw [if_pos rfl]) (by omega)
  have hOs := TOk_P (r := r) (c := c) (s := -1) hO (Or.inl rfl)
  have hXb := p4Y_lo (M' := (zup M 39 (3 * r + c / 4) (lpV (M 39 (3 * r + c / 4)) c 63))) ⟨hX, ht⟩ (fun k hk => zup_ne (by omega))
  refine z_ald (pc := 1332) hc 11 rfl dL_law_1332 ?_
  refine z_ilw (pc := 1333) hc 6 rfl dL_law_1333 ?_
  refine z_ilw (pc := 1335) hc 5 rfl dL_law_1335 ?_
  refine kc_L_26 (pc := 1337) hc rfl (zfitG (Nat.le_of_ble_eq_true rfl) (fun i hi => by first | cases hi | (simp only [zflX, zfl0, Bool.or_eq_true, decide_eq_true_eq] at hi ⊢; omega)) (fun h => by first | rfl | cases h)) (Nat.le_of_ble_eq_true rfl) (ct_L_pinT M 39 (Or.inl rfl) t hP hO r c hi) dL_law_1337 ?_
  refine z_isw (pc := 1340) (lv' := [(15, zI (pcT t r c)), (14, zI 0), (13, zI 1), (12, zR 42), (11, zR 41), (10, zI (zbz vb)), (9, zI c), (8, zI r), (7, zI kd), (6, zI h), (5, zI e), (4, zR 40), (3, zR 39), (2, zR 38), (1, zR 27), (0, zR 60)]) hc rfl (Nat.le_of_ble_eq_true rfl) dL_law_1340 ?_
  refine z_ald (pc := 1342) hc 12 rfl dL_law_1342 ?_
  refine z_ilw (pc := 1343) hc 7 rfl dL_law_1343 ?_
  refine z_ilw (pc := 1345) hc 6 rfl dL_law_1345 ?_
  refine z_bipush (pc := 1347) hc 63 (by decide) dL_law_1347 ?_
  refine kc_L_104 (pc := 1349) hc rfl (zfitG (Nat.le_of_ble_eq_true rfl) (fun i hi => by first | cases hi | (simp only [zflX, zfl0, Bool.or_eq_true, decide_eq_true_eq] at hi ⊢; omega)) (fun h => by first | rfl | cases h)) (Nat.le_of_ble_eq_true rfl) (ct_L_layPin M 39 (Or.inl rfl) r c 63 (by omega) (by omega)) dL_law_1349 ?_
  refine z_ald (pc := 1352) hc 14 rfl dL_law_1352 ?_
  refine z_ilw (pc := 1353) hc 7 rfl dL_law_1353 ?_
  refine z_ilw (pc := 1355) hc 6 rfl dL_law_1355 ?_
  refine kg_L_156 (pc := 1357) hc rfl (zfitG (Nat.le_of_ble_eq_true rfl) (fun i hi => by first | cases hi | (simp only [zflX, zfl0, Bool.or_eq_true, decide_eq_true_eq] at hi ⊢; omega)) (fun h => by first | rfl | cases h)) (by rfl) (Nat.le_of_ble_eq_true rfl) (ct_X5_unpin (zup M 39 (3 * r + c / 4) (lpV (M 39 (3 * r + c / 4)) c 63)) hXb.1 r (by omega) c (by omega)) dL_law_1357 (fun zr M1 hq => ?_)
  obtain ⟨rfl, hY⟩ := qi_unpin hXb.1 hXb.2 hi hq
  have hM1 := p4M_hi hMb hY.2.2
  have hvb : -3 ≤ (if piT t r c ≠ -1 then piT t r c else -3) ∧ (if piT t r c ≠ -1 then piT t r c else -3) < 100 := by have := hO5 r c; split <;> omega
  show zJW X 1360 [(15, zI (pcT t r c)), (14, zI 0), (13, zI 1), (12, zR 42), (11, zR 41), (10, zI (zbz vb)), (9, zI c), (8, zI r), (7, zI kd), (6, zI h), (5, zI e), (4, zR 40), (3, zR 39), (2, zR 38), (1, zR 27), (0, zR 60)] [zI (if piT t r c ≠ -1 then piT t r c else -3)] M1
  refine z_ilw (pc := 1360) hc 0 rfl dL_law_1360 ?_
  refine z_bipush (pc := 1362) hc 63 (by decide) dL_law_1362 ?_
  refine z_cne (pc := 1364) (tgt := 1372) hc (by omega) (by decide) dL_law_1364 (fun h1364 => ?_) (fun h1364 => ?_)
  · show zJW X 1372 [(15, zI (pcT t r c)), (14, zI 0), (13, zI 1), (12, zR 42), (11, zR 41), (10, zI (zbz vb)), (9, zI c), (8, zI r), (7, zI kd), (6, zI h), (5, zI e), (4, zR 40), (3, zR 39), (2, zR 38), (1, zR 27), (0, zR 60)] [zI (if piT t r c ≠ -1 then piT t r c else -3)] M1
    refine z_ilw (pc := 1372) hc 0 rfl dL_law_1372 ?_
    refine z_cne (pc := 1374) (tgt := 1381) hc (by omega) (by decide) dL_law_1374 (fun h1374 => ?_) (fun h1374 => ?_)
    · exfalso; revert h1374; first | (rw [if_neg (fun h => absurd (hpc.2.2.1.mpr h) (by omega))]; omega) | (have := hpc.2.2.2 h1364; rw [if_pos (hpc.2.2.1.mp (by omega))]; omega)
    · show zJW X 1377 [(15, zI (pcT t r c)), (14, zI 0), (13, zI 1), (12, zR 42), (11, zR 41), (10, zI (zbz vb)), (9, zI c), (8, zI r), (7, zI kd), (6, zI h), (5, zI e), (4, zR 40), (3, zR 39), (2, zR 38), (1, zR 27), (0, zR 60)] [] M1
      refine z_iconst (pc := 1377) hc 1 dL_law_1377 ?_
      refine z_goto (pc := 1378) (tgt := 1382) hc (by decide) dL_law_1378 ?_
      refine z_isw (pc := 1382) (lv' := [(13, zI 1), (15, zI (pcT t r c)), (14, zI 0), (12, zR 42), (11, zR 41), (10, zI (zbz vb)), (9, zI c), (8, zI r), (7, zI kd), (6, zI h), (5, zI e), (4, zR 40), (3, zR 39), (2, zR 38), (1, zR 27), (0, zR 60)]) hc rfl (Nat.le_of_ble_eq_true rfl) dL_law_1382 ?_
      refine zJW_sub (lv' := [(13, zI 1), (6, zI h), (5, zI e), (4, zR 40), (3, zR 39), (2, zR 38), (1, zR 27), (0, zR 60)]) [0, 9, 10, 11, 12, 13, 14, 15] rfl ?_
      exact hJ M1 _ ⟨hY.1, hY.2.1, hOs, hM1⟩
  · show zJW X 1367 [(15, zI (pcT t r c)), (14, zI 0), (13, zI 1), (12, zR 42), (11, zR 41), (10, zI (zbz vb)), (9, zI c), (8, zI r), (7, zI kd), (6, zI h), (5, zI e), (4, zR 40), (3, zR 39), (2, zR 38), (1, zR 27), (0, zR 60)] [zI (if piT t r c ≠ -1 then piT t r c else -3)] M1
    refine z_bipush (pc := 1367) hc (-3) (by decide) dL_law_1367 ?_
    refine z_goto (pc := 1369) (tgt := 1374) hc (by decide) dL_law_1369 ?_
    refine z_cne (pc := 1374) (tgt := 1381) hc (by omega) (by decide) dL_law_1374 (fun h1374 => ?_) (fun h1374 => ?_)
    · exfalso; revert h1374; first | (rw [if_neg (fun h => absurd (hpc.2.2.1.mpr h) (by omega))]; omega) | (have := hpc.2.2.2 h1364; rw [if_pos (hpc.2.2.1.mp (by omega))]; omega)
    · show zJW X 1377 [(15, zI (pcT t r c)), (14, zI 0), (13, zI 1), (12, zR 42), (11, zR 41), (10, zI (zbz vb)), (9, zI c), (8, zI r), (7, zI kd), (6, zI h), (5, zI e), (4, zR 40), (3, zR 39), (2, zR 38), (1, zR 27), (0, zR 60)] [] M1
      refine z_iconst (pc := 1377) hc 1 dL_law_1377 ?_
      refine z_goto (pc := 1378) (tgt := 1382) hc (by decide) dL_law_1378 ?_
      refine z_isw (pc := 1382) (lv' := [(13, zI 1), (15, zI (pcT t r c)), (14, zI 0), (12, zR 42), (11, zR 41), (10, zI (zbz vb)), (9, zI c), (8, zI r), (7, zI kd), (6, zI h), (5, zI e), (4, zR 40), (3, zR 39), (2, zR 38), (1, zR 27), (0, zR 60)]) hc rfl (Nat.le_of_ble_eq_true rfl) dL_law_1382 ?_
      refine zJW_sub (lv' := [(13, zI 1), (6, zI h), (5, zI e), (4, zR 40), (3, zR 39), (2, zR 38), (1, zR 27), (0, zR 60)]) [0, 9, 10, 11, 12, 13, 14, 15] rfl ?_
      exact hJ M1 _ ⟨hY.1, hY.2.1, hOs, hM1⟩

set_option maxRecDepth 100000 in
set_option maxHeartbeats 4000000 in
theorem law_begin {X : CX} {M : Mem} {t : TS} (hc : zCx (KL_law 43) X) (hLI : p4LI M t) (h41 : p4F (M 41) t) (h42 : p4P (M 42) t) (e h kd r c : Int) (vb : Bool) (hi : inT t r c = true) (hJ : ∀ (M1 : Mem) (t1 : TS), p4LI M1 t1 → zJW X 1384 [(13, zI 1), (6, zI h), (5, zI e), (4, zR 40), (3, zR 39), (2, zR 38), (1, zR 27), (0, zR 60)] [] M1)  : zJW X 1107 [(14, zI 0), (13, zI 1), (12, zR 42), (11, zR 41), (10, zI (zbz vb)), (9, zI c), (8, zI r), (7, zI kd), (6, zI h), (5, zI e), (4, zR 40), (3, zR 39), (2, zR 38), (1, zR 27), (0, zR 60)] [] M := by
  obtain ⟨hX, ht, hO, hM⟩ := id hLI
  obtain ⟨hF, hP, hT⟩ := id hM
  obtain ⟨hO1, hO2, hO3, hO4, hO5⟩ := id hO
  have hT1 := hT.1
  have hT2 := hT.2.1
  have hib := inT_bd hi
  obtain ⟨hh, hhh⟩ : ∃ n : Int, (1 + zan (zsr h 5) 2147483647 % 12) = n := ⟨_, rfl⟩
  obtain ⟨ww, hww⟩ : ∃ n : Int, (1 + zan (zsr h 9) 2147483647 % 12) = n := ⟨_, rfl⟩
  have b1 := zan_bd (zsr h 5) (m := 2147483647) (by omega)
  have b2 := zan_bd (zsr h 9) (m := 2147483647) (by omega)
  have hhb : 1 ≤ hh ∧ hh ≤ 12 := by omega
  have hwb : 1 ≤ ww ∧ ww ≤ 12 := by omega
  have hpp := zhw hhb.1 hhb.2 hwb.1 hwb.2
  have hMb := be_new (M := M) (t := t) (hh := hh) (ww := ww) hT.2.2 hhb hwb
  have e40 : (frM (filM (filM (zup (zup M 40 0 hh) 40 1 ww) 39 36 16777215) 38 14 0) 38 40 14) 40 = (zup (zup M 40 0 hh) 40 1 ww) 40 := by
    rw [frM_off (by decide)]
    funext z
    show (if (40 : Nat) = 38 ∧ 0 ≤ z ∧ z < 14 then (0 : Int) else if (40 : Nat) = 39 ∧ 0 ≤ z ∧ z < 36 then 16777215 else (zup (zup M 40 0 hh) 40 1 ww) 40 z) = _
    rw [if_neg (fun h => absurd h.1 (by decide)), if_neg (fun h => absurd h.1 (by decide))]
  have e40_0 : (frM (filM (filM (zup (zup M 40 0 hh) 40 1 ww) 39 36 16777215) 38 14 0) 38 40 14) 40 0 = hh := by rw [e40, zup_off (by decide), zup_at]
  have e40_1 : (frM (filM (filM (zup (zup M 40 0 hh) 40 1 ww) 39 36 16777215) 38 14 0) 38 40 14) 40 1 = ww := by rw [e40, zup_at]
  have f40 : (filM (filM (zup (zup M 40 0 hh) 40 1 ww) 39 36 16777215) 38 14 0) 40 = (zup (zup M 40 0 hh) 40 1 ww) 40 := by rw [frM_off (by decide)] at e40; exact e40
  have hXb := p4Y_lo (M' := (frM (filM (filM (zup (zup M 40 0 hh) 40 1 ww) 39 36 16777215) 38 14 0) 38 40 14)) ⟨hX, ht⟩ (fun k hk => by
    rw [frM_off (by omega)]
    funext z
    show (if k = 38 ∧ 0 ≤ z ∧ z < 14 then (0 : Int) else if k = 39 ∧ 0 ≤ z ∧ z < 36 then 16777215 else (zup (zup M 40 0 hh) 40 1 ww) k z) = _
    rw [if_neg (fun h => by omega), if_neg (fun h => by omega), zup_ne (by omega), zup_ne (by omega)])
  have hOs : TOk (tsW hh ww (tO t)) := TOk_W hhb hwb
  refine z_alw (pc := 1107) hc 10 rfl dL_law_1107 ?_
  refine z_iconst (pc := 1109) hc 0 dL_law_1109 ?_
  refine z_iconst (pc := 1110) hc 1 dL_law_1110 ?_
  refine z_ilw (pc := 1111) hc 8 rfl dL_law_1111 ?_
  refine z_iconst (pc := 1113) hc 5 dL_law_1113 ?_
  refine z_ishr (pc := 1114) hc dL_law_1114 ?_
  refine z_bipush (pc := 1115) hc 12 (by decide) dL_law_1115 ?_
  refine kc_L_73 (pc := 1117) hc rfl (zfitG (Nat.le_of_ble_eq_true rfl) (fun i hi => by first | cases hi | (simp only [zflX, zfl0, Bool.or_eq_true, decide_eq_true_eq] at hi ⊢; omega)) (fun h => by first | rfl | cases h)) (Nat.le_of_ble_eq_true rfl) (ct_L_low M (zsr h 5) 12 (by omega)) dL_law_1117 ?_
  refine z_iadd (pc := 1120) hc dL_law_1120 ?_
  refine zJW_eq (st' := [zI hh, zI 0, zR 40]) rfl (by rw [hhh]) rfl ?_
  refine z_iast (pc := 1121) hc (by decide) rfl rfl (by decide) (by omega) dL_law_1121 ?_
  refine z_alw (pc := 1122) hc 10 rfl dL_law_1122 ?_
  refine z_iconst (pc := 1124) hc 1 dL_law_1124 ?_
  refine z_iconst (pc := 1125) hc 1 dL_law_1125 ?_
  refine z_ilw (pc := 1126) hc 8 rfl dL_law_1126 ?_
  refine z_bipush (pc := 1128) hc 9 (by decide) dL_law_1128 ?_
  refine z_ishr (pc := 1130) hc dL_law_1130 ?_
  refine z_bipush (pc := 1131) hc 12 (by decide) dL_law_1131 ?_
  refine kc_L_73 (pc := 1133) hc rfl (zfitG (Nat.le_of_ble_eq_true rfl) (fun i hi => by first | cases hi | (simp only [zflX, zfl0, Bool.or_eq_true, decide_eq_true_eq] at hi ⊢; omega)) (fun h => by first | rfl | cases h)) (Nat.le_of_ble_eq_true rfl) (ct_L_low (zup M 40 0 hh) (zsr h 9) 12 (by omega)) dL_law_1133 ?_
  refine z_iadd (pc := 1136) hc dL_law_1136 ?_
  refine zJW_eq (st' := [zI ww, zI 1, zR 40]) rfl (by rw [hww]) rfl ?_
  refine z_iast (pc := 1137) hc (by decide) rfl rfl (by decide) (by omega) dL_law_1137 ?_
  refine z_iconst (pc := 1138) hc 0 dL_law_1138 ?_
  refine z_isw (pc := 1139) (lv' := [(15, zI 0), (14, zI 0), (13, zI 1), (12, zR 42), (11, zR 41), (10, zI (zbz vb)), (9, zI c), (8, zI r), (7, zI kd), (6, zI h), (5, zI e), (4, zR 40), (3, zR 39), (2, zR 38), (1, zR 27), (0, zR 60)]) hc rfl (Nat.le_of_ble_eq_true rfl) dL_law_1139 ?_
  refine z_for 36 (fun i1141 => [(15, zI (i1141 : Int)), (14, zI 0), (13, zI 1), (12, zR 42), (11, zR 41), (10, zI (zbz vb)), (9, zI c), (8, zI r), (7, zI kd), (6, zI h), (5, zI e), (4, zR 40), (3, zR 39), (2, zR 38), (1, zR 27), (0, zR 60)]) (fun i1141 => (filM (zup (zup M 40 0 hh) 40 1 ww) 39 (i1141 : Int) 16777215)) (by rfl) (by exact filM_0) ?_ (fun i1141 hi1141 ih1141 => ?_)
  · show zJW X 1141 [(15, zI (36 : Int)), (14, zI 0), (13, zI 1), (12, zR 42), (11, zR 41), (10, zI (zbz vb)), (9, zI c), (8, zI r), (7, zI kd), (6, zI h), (5, zI e), (4, zR 40), (3, zR 39), (2, zR 38), (1, zR 27), (0, zR 60)] [] (filM (zup (zup M 40 0 hh) 40 1 ww) 39 (36 : Int) 16777215)
    refine z_ilw (pc := 1141) hc 0 rfl dL_law_1141 ?_
    refine z_bipush (pc := 1143) hc 36 (by decide) dL_law_1143 ?_
    refine z_cge (pc := 1145) (tgt := 1160) hc (by omega) (by decide) dL_law_1145 (fun h1145 => ?_) (fun h1145 => ?_)
    · show zJW X 1160 [(15, zI (36 : Int)), (14, zI 0), (13, zI 1), (12, zR 42), (11, zR 41), (10, zI (zbz vb)), (9, zI c), (8, zI r), (7, zI kd), (6, zI h), (5, zI e), (4, zR 40), (3, zR 39), (2, zR 38), (1, zR 27), (0, zR 60)] [] (filM (zup (zup M 40 0 hh) 40 1 ww) 39 (36 : Int) 16777215)
      refine z_iconst (pc := 1160) hc 0 dL_law_1160 ?_
      refine z_isw (pc := 1161) (lv' := [(15, zI 0), (14, zI 0), (13, zI 1), (12, zR 42), (11, zR 41), (10, zI (zbz vb)), (9, zI c), (8, zI r), (7, zI kd), (6, zI h), (5, zI e), (4, zR 40), (3, zR 39), (2, zR 38), (1, zR 27), (0, zR 60)]) hc rfl (Nat.le_of_ble_eq_true rfl) dL_law_1161 ?_
      refine z_for 14 (fun i1163 => [(15, zI (i1163 : Int)), (14, zI 0), (13, zI 1), (12, zR 42), (11, zR 41), (10, zI (zbz vb)), (9, zI c), (8, zI r), (7, zI kd), (6, zI h), (5, zI e), (4, zR 40), (3, zR 39), (2, zR 38), (1, zR 27), (0, zR 60)]) (fun i1163 => (filM (filM (zup (zup M 40 0 hh) 40 1 ww) 39 36 16777215) 38 (i1163 : Int) 0)) (by rfl) (by exact filM_0) ?_ (fun i1163 hi1163 ih1163 => ?_)
      · show zJW X 1163 [(15, zI (14 : Int)), (14, zI 0), (13, zI 1), (12, zR 42), (11, zR 41), (10, zI (zbz vb)), (9, zI c), (8, zI r), (7, zI kd), (6, zI h), (5, zI e), (4, zR 40), (3, zR 39), (2, zR 38), (1, zR 27), (0, zR 60)] [] (filM (filM (zup (zup M 40 0 hh) 40 1 ww) 39 36 16777215) 38 (14 : Int) 0)
        refine z_ilw (pc := 1163) hc 0 rfl dL_law_1163 ?_
        refine z_bipush (pc := 1165) hc 14 (by decide) dL_law_1165 ?_
        refine z_cge (pc := 1167) (tgt := 1181) hc (by omega) (by decide) dL_law_1167 (fun h1167 => ?_) (fun h1167 => ?_)
        · show zJW X 1181 [(15, zI (14 : Int)), (14, zI 0), (13, zI 1), (12, zR 42), (11, zR 41), (10, zI (zbz vb)), (9, zI c), (8, zI r), (7, zI kd), (6, zI h), (5, zI e), (4, zR 40), (3, zR 39), (2, zR 38), (1, zR 27), (0, zR 60)] [] (filM (filM (zup (zup M 40 0 hh) 40 1 ww) 39 36 16777215) 38 (14 : Int) 0)
          refine z_ald (pc := 1181) hc 13 rfl dL_law_1181 ?_
          refine z_alw (pc := 1182) hc 11 rfl dL_law_1182 ?_
          refine kc_L_138 (pc := 1184) hc rfl (zfitG (Nat.le_of_ble_eq_true rfl) (fun i hi => by first | cases hi | (simp only [zflX, zfl0, Bool.or_eq_true, decide_eq_true_eq] at hi ⊢; omega)) (fun h => by first | rfl | cases h)) (Nat.le_of_ble_eq_true rfl) (ct_L_frame (filM (filM (zup (zup M 40 0 hh) 40 1 ww) 39 36 16777215) 38 14 0) (by rw [f40, zup_off (by decide), zup_at, zup_at]; omega) (by rw [f40, zup_off (by decide), zup_off (by decide), hT.2.2]; exact zbz_cases _)) dL_law_1184 ?_
          refine z_ald (pc := 1187) hc 14 rfl dL_law_1187 ?_
          refine z_alw (pc := 1188) hc 11 rfl dL_law_1188 ?_
          refine z_iconst (pc := 1190) hc 0 dL_law_1190 ?_
          refine z_iald (pc := 1191) hc (by decide) rfl rfl (by decide) (by omega) dL_law_1191 ?_
          refine zJW_eq (st' := [zI hh, zR 27]) rfl (by rw [e40_0]) rfl ?_
          refine z_alw (pc := 1192) hc 11 rfl dL_law_1192 ?_
          refine z_iconst (pc := 1194) hc 1 dL_law_1194 ?_
          refine z_iald (pc := 1195) hc (by decide) rfl rfl (by decide) (by omega) dL_law_1195 ?_
          refine zJW_eq (st' := [zI ww, zI hh, zR 27]) rfl (by rw [e40_1]) rfl ?_
          refine kg_L_151 (pc := 1196) hc rfl (zfitG (Nat.le_of_ble_eq_true rfl) (fun i hi => by first | cases hi | (simp only [zflX, zfl0, Bool.or_eq_true, decide_eq_true_eq] at hi ⊢; omega)) (fun h => by first | rfl | cases h)) (by rfl) (Nat.le_of_ble_eq_true rfl) (ct_X5_begin (frM (filM (filM (zup (zup M 40 0 hh) 40 1 ww) 39 36 16777215) 38 14 0) 38 40 14) hXb.1 hh (by omega) ww (by omega)) dL_law_1196 (fun zr M1 hq => ?_)
          obtain ⟨rfl, hY⟩ := qi_begin hXb.1 hXb.2 hhb hwb hq
          have hM1 := p4M_hi hMb hY.2.2
          have g0 : M1 40 0 = hh := hM1.2.2.1
          have g1 : M1 40 1 = ww := hM1.2.2.2.1
          show zJW X 1199 [(15, zI (14 : Int)), (14, zI 0), (13, zI 1), (12, zR 42), (11, zR 41), (10, zI (zbz vb)), (9, zI c), (8, zI r), (7, zI kd), (6, zI h), (5, zI e), (4, zR 40), (3, zR 39), (2, zR 38), (1, zR 27), (0, zR 60)] [zI (hh * ww)] M1
          refine z_alw (pc := 1199) hc 11 rfl dL_law_1199 ?_
          refine z_iconst (pc := 1201) hc 0 dL_law_1201 ?_
          refine z_iald (pc := 1202) hc (by decide) rfl rfl (by decide) (by omega) dL_law_1202 ?_
          refine z_alw (pc := 1203) hc 11 rfl dL_law_1203 ?_
          refine z_iconst (pc := 1205) hc 1 dL_law_1205 ?_
          refine z_iald (pc := 1206) hc (by decide) rfl rfl (by decide) (by omega) dL_law_1206 ?_
          refine z_imul (pc := 1207) hc dL_law_1207 ?_
          refine z_cne (pc := 1208) (tgt := 1215) hc (by rw [g0, g1]; omega) (by decide) dL_law_1208 (fun h1208 => ?_) (fun h1208 => ?_)
          · exfalso; rw [g0, g1] at h1208; exact h1208 rfl
          · show zJW X 1211 [(15, zI (14 : Int)), (14, zI 0), (13, zI 1), (12, zR 42), (11, zR 41), (10, zI (zbz vb)), (9, zI c), (8, zI r), (7, zI kd), (6, zI h), (5, zI e), (4, zR 40), (3, zR 39), (2, zR 38), (1, zR 27), (0, zR 60)] [] M1
            refine z_iconst (pc := 1211) hc 1 dL_law_1211 ?_
            refine z_goto (pc := 1212) (tgt := 1216) hc (by decide) dL_law_1212 ?_
            refine z_isw (pc := 1216) (lv' := [(13, zI 1), (15, zI (14 : Int)), (14, zI 0), (12, zR 42), (11, zR 41), (10, zI (zbz vb)), (9, zI c), (8, zI r), (7, zI kd), (6, zI h), (5, zI e), (4, zR 40), (3, zR 39), (2, zR 38), (1, zR 27), (0, zR 60)]) hc rfl (Nat.le_of_ble_eq_true rfl) dL_law_1216 ?_
            refine z_goto (pc := 1218) (tgt := 1384) hc (by decide) dL_law_1218 ?_
            refine zJW_sub (lv' := [(13, zI 1), (6, zI h), (5, zI e), (4, zR 40), (3, zR 39), (2, zR 38), (1, zR 27), (0, zR 60)]) [0, 9, 10, 11, 12, 13, 14, 15] rfl ?_
            exact hJ M1 (tsW hh ww (tO t)) ⟨hY.1, hY.2.1, hOs, hM1⟩
        · exfalso; omega
      · show zJW X 1163 [(15, zI (i1163 : Int)), (14, zI 0), (13, zI 1), (12, zR 42), (11, zR 41), (10, zI (zbz vb)), (9, zI c), (8, zI r), (7, zI kd), (6, zI h), (5, zI e), (4, zR 40), (3, zR 39), (2, zR 38), (1, zR 27), (0, zR 60)] [] (filM (filM (zup (zup M 40 0 hh) 40 1 ww) 39 36 16777215) 38 (i1163 : Int) 0)
        refine z_ilw (pc := 1163) hc 0 rfl dL_law_1163 ?_
        refine z_bipush (pc := 1165) hc 14 (by decide) dL_law_1165 ?_
        refine z_cge (pc := 1167) (tgt := 1181) hc (by omega) (by decide) dL_law_1167 (fun h1167 => ?_) (fun h1167 => ?_)
        · exfalso; omega
        · show zJW X 1170 [(15, zI (i1163 : Int)), (14, zI 0), (13, zI 1), (12, zR 42), (11, zR 41), (10, zI (zbz vb)), (9, zI c), (8, zI r), (7, zI kd), (6, zI h), (5, zI e), (4, zR 40), (3, zR 39), (2, zR 38), (1, zR 27), (0, zR 60)] [] (filM (filM (zup (zup M 40 0 hh) 40 1 ww) 39 36 16777215) 38 (i1163 : Int) 0)
          refine z_ald (pc := 1170) hc 13 rfl dL_law_1170 ?_
          refine z_ilw (pc := 1171) hc 0 rfl dL_law_1171 ?_
          refine z_iconst (pc := 1173) hc 0 dL_law_1173 ?_
          refine z_iast (pc := 1174) hc (by decide) rfl rfl (by decide) (by omega) dL_law_1174 ?_
          refine z_iinc (pc := 1175) (lv' := [(15, zI ((i1163 : Int) + 1)), (14, zI 0), (13, zI 1), (12, zR 42), (11, zR 41), (10, zI (zbz vb)), (9, zI c), (8, zI r), (7, zI kd), (6, zI h), (5, zI e), (4, zR 40), (3, zR 39), (2, zR 38), (1, zR 27), (0, zR 60)]) hc 0 rfl rfl (Nat.le_of_ble_eq_true rfl) dL_law_1175 ?_
          refine z_goto (pc := 1178) (tgt := 1163) hc (by decide) dL_law_1178 ?_
          exact zJW_eq (by rfl) rfl (by exact filM_s i1163) ih1163
    · exfalso; omega
  · show zJW X 1141 [(15, zI (i1141 : Int)), (14, zI 0), (13, zI 1), (12, zR 42), (11, zR 41), (10, zI (zbz vb)), (9, zI c), (8, zI r), (7, zI kd), (6, zI h), (5, zI e), (4, zR 40), (3, zR 39), (2, zR 38), (1, zR 27), (0, zR 60)] [] (filM (zup (zup M 40 0 hh) 40 1 ww) 39 (i1141 : Int) 16777215)
    refine z_ilw (pc := 1141) hc 0 rfl dL_law_1141 ?_
    refine z_bipush (pc := 1143) hc 36 (by decide) dL_law_1143 ?_
    refine z_cge (pc := 1145) (tgt := 1160) hc (by omega) (by decide) dL_law_1145 (fun h1145 => ?_) (fun h1145 => ?_)
    · exfalso; omega
    · show zJW X 1148 [(15, zI (i1141 : Int)), (14, zI 0), (13, zI 1), (12, zR 42), (11, zR 41), (10, zI (zbz vb)), (9, zI c), (8, zI r), (7, zI kd), (6, zI h), (5, zI e), (4, zR 40), (3, zR 39), (2, zR 38), (1, zR 27), (0, zR 60)] [] (filM (zup (zup M 40 0 hh) 40 1 ww) 39 (i1141 : Int) 16777215)
      refine z_ald (pc := 1148) hc 12 rfl dL_law_1148 ?_
      refine z_ilw (pc := 1149) hc 0 rfl dL_law_1149 ?_
      refine z_ldc (pc := 1151) hc 16777215 (List.mem_filter.mpr ⟨List.mem_of_getElem? (i := 512) (by decide +kernel), rfl⟩) dL_law_1151 ?_
      refine z_iast (pc := 1153) hc (by decide) rfl rfl (by decide) (by omega) dL_law_1153 ?_
      refine z_iinc (pc := 1154) (lv' := [(15, zI ((i1141 : Int) + 1)), (14, zI 0), (13, zI 1), (12, zR 42), (11, zR 41), (10, zI (zbz vb)), (9, zI c), (8, zI r), (7, zI kd), (6, zI h), (5, zI e), (4, zR 40), (3, zR 39), (2, zR 38), (1, zR 27), (0, zR 60)]) hc 0 rfl rfl (Nat.le_of_ble_eq_true rfl) dL_law_1154 ?_
      refine z_goto (pc := 1157) (tgt := 1141) hc (by decide) dL_law_1157 ?_
      exact zJW_eq (by rfl) rfl (by exact filM_s i1141) ih1141

