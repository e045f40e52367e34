set_option maxRecDepth 100000 in
set_option maxHeartbeats 4000000 in
theorem ct_L_needs (M : Mem) (t : TS) (hX : XI M) (ht : tsX M 0 = t) (hL : p4M M t) (hO : TOk t) (r c : Int) (hi : inT t r c = true) (s : Int) (hs : 0 ≤ s ∧ s < 47) : zCt yL_needs (KL_needs 38 40) [zR 27, zR 38, zR 40, zI r, zI c, zI s] M (fun zv zM => zv = some (zbz true) ∧ zM = M) := by
  obtain ⟨hF, hP, hT⟩ := hL
  obtain ⟨hO1, hO2, hO3, hO4, hO5⟩ := id hO
  have hT1 := hT.1
  have hT2 := hT.2.1
  have hib := inT_bd hi
  have hmk := mkZ_bd hs
  have har := arT_bd t r c
  have hwr := wrT_bd t r c s
  have hbw := bcZ_bd hwr
  have hlb := zbz_bd (laT t r c)
  have h85 := zan_bd (arT t r c) (m := 85) (by omega)
  have hb85 := bcZ_bd (x := zan (arT t r c) 85) (by omega)
  refine z_met (by decide) rfl (Nat.le_of_ble_eq_true rfl) (fun X hc he => ?_)
  show zJW X 0 [(0, zR 27), (1, zR 38), (2, zR 40), (3, zI r), (4, zI c), (5, zI s)] [] M
  refine z_ilw (pc := 0) hc 5 rfl dL_needs_0 ?_
  refine kc_L_29 (pc := 2) hc rfl (zfitG (Nat.le_of_ble_eq_true rfl) (fun i hi => by first | cases hi | (simp only [zflX, zfl0, Bool.or_eq_true, decide_eq_true_eq] at hi ⊢; omega)) (fun h => by first | rfl | cases h)) (Nat.le_of_ble_eq_true rfl) (ct_L_mask M s hs) dL_needs_2 ?_
  refine z_isw (pc := 5) (lv' := [(6, zI (mkZ s)), (0, zR 27), (1, zR 38), (2, zR 40), (3, zI r), (4, zI c), (5, zI s)]) hc rfl (Nat.le_of_ble_eq_true rfl) dL_needs_5 ?_
  refine z_ald (pc := 7) hc 2 rfl dL_needs_7 ?_
  refine z_ild (pc := 8) hc 4 rfl dL_needs_8 ?_
  refine z_ilw (pc := 9) hc 5 rfl dL_needs_9 ?_
  refine kc_L_32 (pc := 11) hc rfl (zfitG (Nat.le_of_ble_eq_true rfl) (fun i hi => by first | cases hi | (simp only [zflX, zfl0, Bool.or_eq_true, decide_eq_true_eq] at hi ⊢; omega)) (fun h => by first | rfl | cases h)) (Nat.le_of_ble_eq_true rfl) (ct_L_around M 38 (Or.inl rfl) t hF hO r c hi) dL_needs_11 ?_
  refine z_isw (pc := 14) (lv' := [(7, zI (arT t r c)), (6, zI (mkZ s)), (0, zR 27), (1, zR 38), (2, zR 40), (3, zI r), (4, zI c), (5, zI s)]) hc rfl (Nat.le_of_ble_eq_true rfl) dL_needs_14 ?_
  refine z_bipush (pc := 16) hc 85 (by decide) dL_needs_16 ?_
  refine z_isw (pc := 18) (lv' := [(8, zI 85), (7, zI (arT t r c)), (6, zI (mkZ s)), (0, zR 27), (1, zR 38), (2, zR 40), (3, zI r), (4, zI c), (5, zI s)]) hc rfl (Nat.le_of_ble_eq_true rfl) dL_needs_18 ?_
  refine z_iconst (pc := 20) hc 1 dL_needs_20 ?_
  refine z_isw (pc := 21) (lv' := [(9, zI 1), (8, zI 85), (7, zI (arT t r c)), (6, zI (mkZ s)), (0, zR 27), (1, zR 38), (2, zR 40), (3, zI r), (4, zI c), (5, zI s)]) hc rfl (Nat.le_of_ble_eq_true rfl) dL_needs_21 ?_
  refine z_for 4 (fun i23 => [(9, zI (2 * (i23 : Int) + 1)), (8, zI (mtE (mkZ s) i23)), (7, zI (arT t r c)), (6, zI (mkZ s)), (0, zR 27), (1, zR 38), (2, zR 40), (3, zI r), (4, zI c), (5, zI s)]) (fun i23 => M) (by rfl) (by rfl) ?_ (fun i23 hi23 ih23 => ?_)
  · show zJW X 23 [(9, zI (2 * (4 : Int) + 1)), (8, zI (mtE (mkZ s) 4)), (7, zI (arT t r c)), (6, zI (mkZ s)), (0, zR 27), (1, zR 38), (2, zR 40), (3, zI r), (4, zI c), (5, zI s)] [] M
    refine z_ilw (pc := 23) hc 0 rfl dL_needs_23 ?_
    refine z_bipush (pc := 25) hc 8 (by decide) dL_needs_25 ?_
    refine z_cge (pc := 27) (tgt := 78) hc (by omega) (by decide) dL_needs_27 (fun h27 => ?_) (fun h27 => ?_)
    · show zJW X 78 [(9, zI (2 * (4 : Int) + 1)), (8, zI (mtE (mkZ s) 4)), (7, zI (arT t r c)), (6, zI (mkZ s)), (0, zR 27), (1, zR 38), (2, zR 40), (3, zI r), (4, zI c), (5, zI s)] [] M
      refine z_ilw (pc := 78) hc 2 rfl dL_needs_78 ?_
      refine z_ilw (pc := 80) hc 3 rfl dL_needs_80 ?_
      refine z_ixor (pc := 82) hc dL_needs_82 ?_
      refine z_ilw (pc := 83) hc 1 rfl dL_needs_83 ?_
      refine z_iand (pc := 85) hc dL_needs_85 ?_
      refine z_isw (pc := 86) (lv' := [(9, zI (zan (zxr (arT t r c) (mkZ s)) (mtE (mkZ s) 4))), (8, zI (mtE (mkZ s) 4)), (7, zI (arT t r c)), (6, zI (mkZ s)), (0, zR 27), (1, zR 38), (2, zR 40), (3, zI r), (4, zI c), (5, zI s)]) hc rfl (Nat.le_of_ble_eq_true rfl) dL_needs_86 ?_
      refine zJW_eq (lv' := [(9, zI (wrT t r c s)), (8, zI (mtE (mkZ s) 4)), (7, zI (arT t r c)), (6, zI (mkZ s)), (0, zR 27), (1, zR 38), (2, zR 40), (3, zI r), (4, zI c), (5, zI s)]) (by rw [mtE_bt hs, p4_oth]) rfl rfl ?_
      refine z_iconst (pc := 88) hc 0 dL_needs_88 ?_
      refine z_isw (pc := 89) (lv' := [(10, zI 0), (9, zI (wrT t r c s)), (8, zI (mtE (mkZ s) 4)), (7, zI (arT t r c)), (6, zI (mkZ s)), (0, zR 27), (1, zR 38), (2, zR 40), (3, zI r), (4, zI c), (5, zI s)]) hc rfl (Nat.le_of_ble_eq_true rfl) dL_needs_89 ?_
      refine z_iconst (pc := 91) hc 0 dL_needs_91 ?_
      refine z_isw (pc := 92) (lv' := [(11, zI 0), (10, zI 0), (9, zI (wrT t r c s)), (8, zI (mtE (mkZ s) 4)), (7, zI (arT t r c)), (6, zI (mkZ s)), (0, zR 27), (1, zR 38), (2, zR 40), (3, zI r), (4, zI c), (5, zI s)]) hc rfl (Nat.le_of_ble_eq_true rfl) dL_needs_92 ?_
      refine z_for 8 (fun i94 => [(11, zI (i94 : Int)), (10, zI (zbz (ouB t r c s i94))), (9, zI (wrT t r c s)), (8, zI (mtE (mkZ s) 4)), (7, zI (arT t r c)), (6, zI (mkZ s)), (0, zR 27), (1, zR 38), (2, zR 40), (3, zI r), (4, zI c), (5, zI s)]) (fun i94 => M) (by rfl) (by rfl) ?_ (fun i94 hi94 ih94 => ?_)
      · show zJW X 94 [(11, zI (8 : Int)), (10, zI (zbz (ouB t r c s 8))), (9, zI (wrT t r c s)), (8, zI (mtE (mkZ s) 4)), (7, zI (arT t r c)), (6, zI (mkZ s)), (0, zR 27), (1, zR 38), (2, zR 40), (3, zI r), (4, zI c), (5, zI s)] [] M
        refine z_ilw (pc := 94) hc 0 rfl dL_needs_94 ?_
        refine z_bipush (pc := 96) hc 8 (by decide) dL_needs_96 ?_
        refine z_cge (pc := 98) (tgt := 175) hc (by omega) (by decide) dL_needs_98 (fun h98 => ?_) (fun h98 => ?_)
        · show zJW X 175 [(11, zI (8 : Int)), (10, zI (zbz (ouB t r c s 8))), (9, zI (wrT t r c s)), (8, zI (mtE (mkZ s) 4)), (7, zI (arT t r c)), (6, zI (mkZ s)), (0, zR 27), (1, zR 38), (2, zR 40), (3, zI r), (4, zI c), (5, zI s)] [] M
          refine z_ald (pc := 175) hc 7 rfl dL_needs_175 ?_
          refine z_ild (pc := 176) hc 9 rfl dL_needs_176 ?_
          refine z_ilw (pc := 177) hc 10 rfl dL_needs_177 ?_
          refine kc_L_19 (pc := 179) hc rfl (zfitG (Nat.le_of_ble_eq_true rfl) (fun i hi => by first | cases hi | (simp only [zflX, zfl0, Bool.or_eq_true, decide_eq_true_eq] at hi ⊢; omega)) (fun h => by first | rfl | cases h)) (Nat.le_of_ble_eq_true rfl) (ct_L_landT M 38 (Or.inl rfl) t hF hO r c (by omega)) dL_needs_179 ?_
          refine z_isw (pc := 182) (lv' := [(11, zI (zbz (laT t r c))), (10, zI (zbz (ouB t r c s 8))), (9, zI (wrT t r c s)), (8, zI (mtE (mkZ s) 4)), (7, zI (arT t r c)), (6, zI (mkZ s)), (0, zR 27), (1, zR 38), (2, zR 40), (3, zI r), (4, zI c), (5, zI s)]) hc rfl (Nat.le_of_ble_eq_true rfl) dL_needs_182 ?_
          refine z_iconst (pc := 184) hc 4 dL_needs_184 ?_
          refine z_ilw (pc := 185) hc 4 rfl dL_needs_185 ?_
          refine z_bipush (pc := 187) hc 85 (by decide) dL_needs_187 ?_
          refine z_iand (pc := 189) hc dL_needs_189 ?_
          refine kc_L_41 (pc := 190) hc rfl (zfitG (Nat.le_of_ble_eq_true rfl) (fun i hi => by first | cases hi | (simp only [zflX, zfl0, Bool.or_eq_true, decide_eq_true_eq] at hi ⊢; omega)) (fun h => by first | rfl | cases h)) (Nat.le_of_ble_eq_true rfl) (ct_L_bits M (zan (arT t r c) 85) (by omega)) dL_needs_190 ?_
          refine z_isub (pc := 193) hc dL_needs_193 ?_
          refine z_isw (pc := 194) (lv' := [(12, zI (4 - (bcZ (zan (arT t r c) 85)))), (11, zI (zbz (laT t r c))), (10, zI (zbz (ouB t r c s 8))), (9, zI (wrT t r c s)), (8, zI (mtE (mkZ s) 4)), (7, zI (arT t r c)), (6, zI (mkZ s)), (0, zR 27), (1, zR 38), (2, zR 40), (3, zI r), (4, zI c), (5, zI s)]) hc rfl (Nat.le_of_ble_eq_true rfl) dL_needs_194 ?_
          refine z_iconst (pc := 196) hc 0 dL_needs_196 ?_
          refine z_isw (pc := 197) (lv' := [(13, zI 0), (12, zI (4 - (bcZ (zan (arT t r c) 85)))), (11, zI (zbz (laT t r c))), (10, zI (zbz (ouB t r c s 8))), (9, zI (wrT t r c s)), (8, zI (mtE (mkZ s) 4)), (7, zI (arT t r c)), (6, zI (mkZ s)), (0, zR 27), (1, zR 38), (2, zR 40), (3, zI r), (4, zI c), (5, zI s)]) hc rfl (Nat.le_of_ble_eq_true rfl) dL_needs_197 ?_
          refine z_iconst (pc := 199) hc 0 dL_needs_199 ?_
          refine z_isw (pc := 200) (lv' := [(14, zI 0), (13, zI 0), (12, zI (4 - (bcZ (zan (arT t r c) 85)))), (11, zI (zbz (laT t r c))), (10, zI (zbz (ouB t r c s 8))), (9, zI (wrT t r c s)), (8, zI (mtE (mkZ s) 4)), (7, zI (arT t r c)), (6, zI (mkZ s)), (0, zR 27), (1, zR 38), (2, zR 40), (3, zI r), (4, zI c), (5, zI s)]) hc rfl (Nat.le_of_ble_eq_true rfl) dL_needs_200 ?_
          refine z_for 4 (fun i202 => [(14, zI (2 * (i202 : Int))), (13, zI (thS t r c i202)), (12, zI (4 - (bcZ (zan (arT t r c) 85)))), (11, zI (zbz (laT t r c))), (10, zI (zbz (ouB t r c s 8))), (9, zI (wrT t r c s)), (8, zI (mtE (mkZ s) 4)), (7, zI (arT t r c)), (6, zI (mkZ s)), (0, zR 27), (1, zR 38), (2, zR 40), (3, zI r), (4, zI c), (5, zI s)]) (fun i202 => M) (by rfl) (by rfl) ?_ (fun i202 hi202 ih202 => ?_)
          · show zJW X 202 [(14, zI (2 * (4 : Int))), (13, zI (thS t r c 4)), (12, zI (4 - (bcZ (zan (arT t r c) 85)))), (11, zI (zbz (laT t r c))), (10, zI (zbz (ouB t r c s 8))), (9, zI (wrT t r c s)), (8, zI (mtE (mkZ s) 4)), (7, zI (arT t r c)), (6, zI (mkZ s)), (0, zR 27), (1, zR 38), (2, zR 40), (3, zI r), (4, zI c), (5, zI s)] [] M
            refine z_ilw (pc := 202) hc 0 rfl dL_needs_202 ?_
            refine z_bipush (pc := 204) hc 8 (by decide) dL_needs_204 ?_
            refine z_cge (pc := 206) (tgt := 281) hc (by omega) (by decide) dL_needs_206 (fun h206 => ?_) (fun h206 => ?_)
            · show zJW X 281 [(14, zI (2 * (4 : Int))), (13, zI (thS t r c 4)), (12, zI (4 - (bcZ (zan (arT t r c) 85)))), (11, zI (zbz (laT t r c))), (10, zI (zbz (ouB t r c s 8))), (9, zI (wrT t r c s)), (8, zI (mtE (mkZ s) 4)), (7, zI (arT t r c)), (6, zI (mkZ s)), (0, zR 27), (1, zR 38), (2, zR 40), (3, zI r), (4, zI c), (5, zI s)] [] M
              refine z_ilw (pc := 281) hc 3 rfl dL_needs_281 ?_
              refine z_iconst (pc := 283) hc 1 dL_needs_283 ?_
              refine z_cne (pc := 284) (tgt := 295) hc (by omega) (by decide) dL_needs_284 (fun h284 => ?_) (fun h284 => ?_)
              · show zJW X 295 [(14, zI (2 * (4 : Int))), (13, zI (thS t r c 4)), (12, zI (4 - (bcZ (zan (arT t r c) 85)))), (11, zI (zbz (laT t r c))), (10, zI (zbz (ouB t r c s 8))), (9, zI (wrT t r c s)), (8, zI (mtE (mkZ s) 4)), (7, zI (arT t r c)), (6, zI (mkZ s)), (0, zR 27), (1, zR 38), (2, zR 40), (3, zI r), (4, zI c), (5, zI s)] [] M
                refine z_ilw (pc := 295) hc 2 rfl dL_needs_295 ?_
                refine z_ilw (pc := 297) hc 1 rfl dL_needs_297 ?_
                refine z_isub (pc := 299) hc dL_needs_299 ?_
                refine z_isw (pc := 300) (lv' := [(14, zI ((4 - (bcZ (zan (arT t r c) 85))) - thS t r c 4)), (13, zI (thS t r c 4)), (12, zI (4 - (bcZ (zan (arT t r c) 85)))), (11, zI (zbz (laT t r c))), (10, zI (zbz (ouB t r c s 8))), (9, zI (wrT t r c s)), (8, zI (mtE (mkZ s) 4)), (7, zI (arT t r c)), (6, zI (mkZ s)), (0, zR 27), (1, zR 38), (2, zR 40), (3, zI r), (4, zI c), (5, zI s)]) hc rfl (Nat.le_of_ble_eq_true rfl) dL_needs_300 ?_
                refine z_ald (pc := 302) hc 9 rfl dL_needs_302 ?_
                refine z_ild (pc := 303) hc 12 rfl dL_needs_303 ?_
                refine z_ilw (pc := 304) hc 13 rfl dL_needs_304 ?_
                refine z_ilw (pc := 306) hc 14 rfl dL_needs_306 ?_
                refine kc_L_94 (pc := 308) hc rfl (zfitG (Nat.le_of_ble_eq_true rfl) (fun i hi => by first | cases hi | (simp only [zflX, zfl0, Bool.or_eq_true, decide_eq_true_eq] at hi ⊢; omega)) (fun h => by first | rfl | cases h)) (by rfl) (Nat.le_of_ble_eq_true rfl) (q_needs M t r c s hX ht hO hi hs) dL_needs_308 ?_
                refine z_ilw (pc := 311) hc 4 rfl dL_needs_311 ?_
                refine z_beq (pc := 313) (tgt := 321) hc (by decide) dL_needs_313 (fun h313 => ?_) (fun h313 => ?_)
                · show zJW X 321 [(14, zI ((4 - (bcZ (zan (arT t r c) 85))) - thS t r c 4)), (13, zI (thS t r c 4)), (12, zI (4 - (bcZ (zan (arT t r c) 85)))), (11, zI (zbz (laT t r c))), (10, zI (zbz (ouB t r c s 8))), (9, zI (wrT t r c s)), (8, zI (mtE (mkZ s) 4)), (7, zI (arT t r c)), (6, zI (mkZ s)), (0, zR 27), (1, zR 38), (2, zR 40), (3, zI r), (4, zI c), (5, zI s)] [zI (if ouB t r c s 8 = true then -6 else bcZ (wrT t r c s))] M
                  refine z_ilw (pc := 321) hc 5 rfl dL_needs_321 ?_
                  refine kc_L_41 (pc := 323) hc rfl (zfitG (Nat.le_of_ble_eq_true rfl) (fun i hi => by first | cases hi | (simp only [zflX, zfl0, Bool.or_eq_true, decide_eq_true_eq] at hi ⊢; omega)) (fun h => by first | rfl | cases h)) (Nat.le_of_ble_eq_true rfl) (ct_L_bits M (wrT t r c s) hwr) dL_needs_323 ?_
                  refine z_cne (pc := 326) (tgt := 348) hc (by first | (rw [if_pos h313]; omega) | (rw [if_neg (by rw [h313]; decide)]; omega) | omega) (by decide) dL_needs_326 (fun h326 => ?_) (fun h326 => ?_)
                  · exfalso; revert h326; first | (rw [if_pos h313]; omega) | (rw [if_neg (by rw [h313]; decide)]; omega)
                  · show zJW X 329 [(14, zI ((4 - (bcZ (zan (arT t r c) 85))) - thS t r c 4)), (13, zI (thS t r c 4)), (12, zI (4 - (bcZ (zan (arT t r c) 85)))), (11, zI (zbz (laT t r c))), (10, zI (zbz (ouB t r c s 8))), (9, zI (wrT t r c s)), (8, zI (mtE (mkZ s) 4)), (7, zI (arT t r c)), (6, zI (mkZ s)), (0, zR 27), (1, zR 38), (2, zR 40), (3, zI r), (4, zI c), (5, zI s)] [] M
                    refine z_ald (pc := 329) hc 9 rfl dL_needs_329 ?_
                    refine z_ild (pc := 330) hc 12 rfl dL_needs_330 ?_
                    refine z_ilw (pc := 331) hc 13 rfl dL_needs_331 ?_
                    refine kc_L_97 (pc := 333) hc rfl (zfitG (Nat.le_of_ble_eq_true rfl) (fun i hi => by first | cases hi | (simp only [zflX, zfl0, Bool.or_eq_true, decide_eq_true_eq] at hi ⊢; omega)) (fun h => by first | rfl | cases h)) (by rfl) (Nat.le_of_ble_eq_true rfl) (q_cc M t r c hX ht hO hi) dL_needs_333 ?_
                    refine z_bipush (pc := 336) hc 100 (by decide) dL_needs_336 ?_
                    refine z_ilw (pc := 338) hc 0 rfl dL_needs_338 ?_
                    refine z_iadd (pc := 340) hc dL_needs_340 ?_
                    refine z_cne (pc := 341) (tgt := 348) hc (by have hth := thS_bd t r c 4; split <;> omega) (by decide) dL_needs_341 (fun h341 => ?_) (fun h341 => ?_)
                    · exfalso; revert h341; first | (rw [if_pos (p4_b1 h284)]; omega) | (rw [if_neg (fun h => p4_b0 h284 h)]; omega)
                    · show zJW X 344 [(14, zI ((4 - (bcZ (zan (arT t r c) 85))) - thS t r c 4)), (13, zI (thS t r c 4)), (12, zI (4 - (bcZ (zan (arT t r c) 85)))), (11, zI (zbz (laT t r c))), (10, zI (zbz (ouB t r c s 8))), (9, zI (wrT t r c s)), (8, zI (mtE (mkZ s) 4)), (7, zI (arT t r c)), (6, zI (mkZ s)), (0, zR 27), (1, zR 38), (2, zR 40), (3, zI r), (4, zI c), (5, zI s)] [] M
                      refine z_iconst (pc := 344) hc 1 dL_needs_344 ?_
                      refine z_goto (pc := 345) (tgt := 349) hc (by decide) dL_needs_345 ?_
                      exact z_bret (pc := 349) (a := true) hc he rfl dL_needs_349 (⟨rfl, rfl⟩)
                · show zJW X 316 [(14, zI ((4 - (bcZ (zan (arT t r c) 85))) - thS t r c 4)), (13, zI (thS t r c 4)), (12, zI (4 - (bcZ (zan (arT t r c) 85)))), (11, zI (zbz (laT t r c))), (10, zI (zbz (ouB t r c s 8))), (9, zI (wrT t r c s)), (8, zI (mtE (mkZ s) 4)), (7, zI (arT t r c)), (6, zI (mkZ s)), (0, zR 27), (1, zR 38), (2, zR 40), (3, zI r), (4, zI c), (5, zI s)] [zI (if ouB t r c s 8 = true then -6 else bcZ (wrT t r c s))] M
                  refine z_bipush (pc := 316) hc (-6) (by decide) dL_needs_316 ?_
                  refine z_goto (pc := 318) (tgt := 326) hc (by decide) dL_needs_318 ?_
                  refine z_cne (pc := 326) (tgt := 348) hc (by first | (rw [if_pos h313]; omega) | (rw [if_neg (by rw [h313]; decide)]; omega) | omega) (by decide) dL_needs_326 (fun h326 => ?_) (fun h326 => ?_)
                  · exfalso; revert h326; first | (rw [if_pos h313]; omega) | (rw [if_neg (by rw [h313]; decide)]; omega)
                  · show zJW X 329 [(14, zI ((4 - (bcZ (zan (arT t r c) 85))) - thS t r c 4)), (13, zI (thS t r c 4)), (12, zI (4 - (bcZ (zan (arT t r c) 85)))), (11, zI (zbz (laT t r c))), (10, zI (zbz (ouB t r c s 8))), (9, zI (wrT t r c s)), (8, zI (mtE (mkZ s) 4)), (7, zI (arT t r c)), (6, zI (mkZ s)), (0, zR 27), (1, zR 38), (2, zR 40), (3, zI r), (4, zI c), (5, zI s)] [] M
                    refine z_ald (pc := 329) hc 9 rfl dL_needs_329 ?_
                    refine z_ild (pc := 330) hc 12 rfl dL_needs_330 ?_
                    refine z_ilw (pc := 331) hc 13 rfl dL_needs_331 ?_
                    refine kc_L_97 (pc := 333) hc rfl (zfitG (Nat.le_of_ble_eq_true rfl) (fun i hi => by first | cases hi | (simp only [zflX, zfl0, Bool.or_eq_true, decide_eq_true_eq] at hi ⊢; omega)) (fun h => by first | rfl | cases h)) (by rfl) (Nat.le_of_ble_eq_true rfl) (q_cc M t r c hX ht hO hi) dL_needs_333 ?_
                    refine z_bipush (pc := 336) hc 100 (by decide) dL_needs_336 ?_
                    refine z_ilw (pc := 338) hc 0 rfl dL_needs_338 ?_
                    refine z_iadd (pc := 340) hc dL_needs_340 ?_
                    refine z_cne (pc := 341) (tgt := 348) hc (by have hth := thS_bd t r c 4; split <;> omega) (by decide) dL_needs_341 (fun h341 => ?_) (fun h341 => ?_)
                    · exfalso; revert h341; first | (rw [if_pos (p4_b1 h284)]; omega) | (rw [if_neg (fun h => p4_b0 h284 h)]; omega)
                    · show zJW X 344 [(14, zI ((4 - (bcZ (zan (arT t r c) 85))) - thS t r c 4)), (13, zI (thS t r c 4)), (12, zI (4 - (bcZ (zan (arT t r c) 85)))), (11, zI (zbz (laT t r c))), (10, zI (zbz (ouB t r c s 8))), (9, zI (wrT t r c s)), (8, zI (mtE (mkZ s) 4)), (7, zI (arT t r c)), (6, zI (mkZ s)), (0, zR 27), (1, zR 38), (2, zR 40), (3, zI r), (4, zI c), (5, zI s)] [] M
                      refine z_iconst (pc := 344) hc 1 dL_needs_344 ?_
                      refine z_goto (pc := 345) (tgt := 349) hc (by decide) dL_needs_345 ?_
                      exact z_bret (pc := 349) (a := true) hc he rfl dL_needs_349 (⟨rfl, rfl⟩)
              · show zJW X 287 [(14, zI (2 * (4 : Int))), (13, zI (thS t r c 4)), (12, zI (4 - (bcZ (zan (arT t r c) 85)))), (11, zI (zbz (laT t r c))), (10, zI (zbz (ouB t r c s 8))), (9, zI (wrT t r c s)), (8, zI (mtE (mkZ s) 4)), (7, zI (arT t r c)), (6, zI (mkZ s)), (0, zR 27), (1, zR 38), (2, zR 40), (3, zI r), (4, zI c), (5, zI s)] [] M
                refine z_ilw (pc := 287) hc 1 rfl dL_needs_287 ?_
                refine z_ilw (pc := 289) hc 2 rfl dL_needs_289 ?_
                refine z_isub (pc := 291) hc dL_needs_291 ?_
                refine z_goto (pc := 292) (tgt := 300) hc (by decide) dL_needs_292 ?_
                refine z_isw (pc := 300) (lv' := [(14, zI (thS t r c 4 - (4 - (bcZ (zan (arT t r c) 85))))), (13, zI (thS t r c 4)), (12, zI (4 - (bcZ (zan (arT t r c) 85)))), (11, zI (zbz (laT t r c))), (10, zI (zbz (ouB t r c s 8))), (9, zI (wrT t r c s)), (8, zI (mtE (mkZ s) 4)), (7, zI (arT t r c)), (6, zI (mkZ s)), (0, zR 27), (1, zR 38), (2, zR 40), (3, zI r), (4, zI c), (5, zI s)]) hc rfl (Nat.le_of_ble_eq_true rfl) dL_needs_300 ?_
                refine z_ald (pc := 302) hc 9 rfl dL_needs_302 ?_
                refine z_ild (pc := 303) hc 12 rfl dL_needs_303 ?_
                refine z_ilw (pc := 304) hc 13 rfl dL_needs_304 ?_
                refine z_ilw (pc := 306) hc 14 rfl dL_needs_306 ?_
                refine kc_L_94 (pc := 308) hc rfl (zfitG (Nat.le_of_ble_eq_true rfl) (fun i hi => by first | cases hi | (simp only [zflX, zfl0, Bool.or_eq_true, decide_eq_true_eq] at hi ⊢; omega)) (fun h => by first | rfl | cases h)) (by rfl) (Nat.le_of_ble_eq_true rfl) (q_needs M t r c s hX ht hO hi hs) dL_needs_308 ?_
                refine z_ilw (pc := 311) hc 4 rfl dL_needs_311 ?_
                refine z_beq (pc := 313) (tgt := 321) hc (by decide) dL_needs_313 (fun h313 => ?_) (fun h313 => ?_)
                · show zJW X 321 [(14, zI (thS t r c 4 - (4 - (bcZ (zan (arT t r c) 85))))), (13, zI (thS t r c 4)), (12, zI (4 - (bcZ (zan (arT t r c) 85)))), (11, zI (zbz (laT t r c))), (10, zI (zbz (ouB t r c s 8))), (9, zI (wrT t r c s)), (8, zI (mtE (mkZ s) 4)), (7, zI (arT t r c)), (6, zI (mkZ s)), (0, zR 27), (1, zR 38), (2, zR 40), (3, zI r), (4, zI c), (5, zI s)] [zI (if ouB t r c s 8 = true then -6 else bcZ (wrT t r c s))] M
                  refine z_ilw (pc := 321) hc 5 rfl dL_needs_321 ?_
                  refine kc_L_41 (pc := 323) hc rfl (zfitG (Nat.le_of_ble_eq_true rfl) (fun i hi => by first | cases hi | (simp only [zflX, zfl0, Bool.or_eq_true, decide_eq_true_eq] at hi ⊢; omega)) (fun h => by first | rfl | cases h)) (Nat.le_of_ble_eq_true rfl) (ct_L_bits M (wrT t r c s) hwr) dL_needs_323 ?_
                  refine z_cne (pc := 326) (tgt := 348) hc (by first | (rw [if_pos h313]; omega) | (rw [if_neg (by rw [h313]; decide)]; omega) | omega) (by decide) dL_needs_326 (fun h326 => ?_) (fun h326 => ?_)
                  · exfalso; revert h326; first | (rw [if_pos h313]; omega) | (rw [if_neg (by rw [h313]; decide)]; omega)
                  · show zJW X 329 [(14, zI (thS t r c 4 - (4 - (bcZ (zan (arT t r c) 85))))), (13, zI (thS t r c 4)), (12, zI (4 - (bcZ (zan (arT t r c) 85)))), (11, zI (zbz (laT t r c))), (10, zI (zbz (ouB t r c s 8))), (9, zI (wrT t r c s)), (8, zI (mtE (mkZ s) 4)), (7, zI (arT t r c)), (6, zI (mkZ s)), (0, zR 27), (1, zR 38), (2, zR 40), (3, zI r), (4, zI c), (5, zI s)] [] M
                    refine z_ald (pc := 329) hc 9 rfl dL_needs_329 ?_
                    refine z_ild (pc := 330) hc 12 rfl dL_needs_330 ?_
                    refine z_ilw (pc := 331) hc 13 rfl dL_needs_331 ?_
                    refine kc_L_97 (pc := 333) hc rfl (zfitG (Nat.le_of_ble_eq_true rfl) (fun i hi => by first | cases hi | (simp only [zflX, zfl0, Bool.or_eq_true, decide_eq_true_eq] at hi ⊢; omega)) (fun h => by first | rfl | cases h)) (by rfl) (Nat.le_of_ble_eq_true rfl) (q_cc M t r c hX ht hO hi) dL_needs_333 ?_
                    refine z_bipush (pc := 336) hc 100 (by decide) dL_needs_336 ?_
                    refine z_ilw (pc := 338) hc 0 rfl dL_needs_338 ?_
                    refine z_iadd (pc := 340) hc dL_needs_340 ?_
                    refine z_cne (pc := 341) (tgt := 348) hc (by have hth := thS_bd t r c 4; split <;> omega) (by decide) dL_needs_341 (fun h341 => ?_) (fun h341 => ?_)
                    · exfalso; revert h341; first | (rw [if_pos (p4_b1 h284)]; omega) | (rw [if_neg (fun h => p4_b0 h284 h)]; omega)
                    · show zJW X 344 [(14, zI (thS t r c 4 - (4 - (bcZ (zan (arT t r c) 85))))), (13, zI (thS t r c 4)), (12, zI (4 - (bcZ (zan (arT t r c) 85)))), (11, zI (zbz (laT t r c))), (10, zI (zbz (ouB t r c s 8))), (9, zI (wrT t r c s)), (8, zI (mtE (mkZ s) 4)), (7, zI (arT t r c)), (6, zI (mkZ s)), (0, zR 27), (1, zR 38), (2, zR 40), (3, zI r), (4, zI c), (5, zI s)] [] M
                      refine z_iconst (pc := 344) hc 1 dL_needs_344 ?_
                      refine z_goto (pc := 345) (tgt := 349) hc (by decide) dL_needs_345 ?_
                      exact z_bret (pc := 349) (a := true) hc he rfl dL_needs_349 (⟨rfl, rfl⟩)
                · show zJW X 316 [(14, zI (thS t r c 4 - (4 - (bcZ (zan (arT t r c) 85))))), (13, zI (thS t r c 4)), (12, zI (4 - (bcZ (zan (arT t r c) 85)))), (11, zI (zbz (laT t r c))), (10, zI (zbz (ouB t r c s 8))), (9, zI (wrT t r c s)), (8, zI (mtE (mkZ s) 4)), (7, zI (arT t r c)), (6, zI (mkZ s)), (0, zR 27), (1, zR 38), (2, zR 40), (3, zI r), (4, zI c), (5, zI s)] [zI (if ouB t r c s 8 = true then -6 else bcZ (wrT t r c s))] M
                  refine z_bipush (pc := 316) hc (-6) (by decide) dL_needs_316 ?_
                  refine z_goto (pc := 318) (tgt := 326) hc (by decide) dL_needs_318 ?_
                  refine z_cne (pc := 326) (tgt := 348) hc (by first | (rw [if_pos h313]; omega) | (rw [if_neg (by rw [h313]; decide)]; omega) | omega) (by decide) dL_needs_326 (fun h326 => ?_) (fun h326 => ?_)
                  · exfalso; revert h326; first | (rw [if_pos h313]; omega) | (rw [if_neg (by rw [h313]; decide)]; omega)
                  · show zJW X 329 [(14, zI (thS t r c 4 - (4 - (bcZ (zan (arT t r c) 85))))), (13, zI (thS t r c 4)), (12, zI (4 - (bcZ (zan (arT t r c) 85)))), (11, zI (zbz (laT t r c))), (10, zI (zbz (ouB t r c s 8))), (9, zI (wrT t r c s)), (8, zI (mtE (mkZ s) 4)), (7, zI (arT t r c)), (6, zI (mkZ s)), (0, zR 27), (1, zR 38), (2, zR 40), (3, zI r), (4, zI c), (5, zI s)] [] M
                    refine z_ald (pc := 329) hc 9 rfl dL_needs_329 ?_
                    refine z_ild (pc := 330) hc 12 rfl dL_needs_330 ?_
                    refine z_ilw (pc := 331) hc 13 rfl dL_needs_331 ?_
                    refine kc_L_97 (pc := 333) hc rfl (zfitG (Nat.le_of_ble_eq_true rfl) (fun i hi => by first | cases hi | (simp only [zflX, zfl0, Bool.or_eq_true, decide_eq_true_eq] at hi ⊢; omega)) (fun h => by first | rfl | cases h)) (by rfl) (Nat.le_of_ble_eq_true rfl) (q_cc M t r c hX ht hO hi) dL_needs_333 ?_
                    refine z_bipush (pc := 336) hc 100 (by decide) dL_needs_336 ?_
                    refine z_ilw (pc := 338) hc 0 rfl dL_needs_338 ?_
                    refine z_iadd (pc := 340) hc dL_needs_340 ?_
                    refine z_cne (pc := 341) (tgt := 348) hc (by have hth := thS_bd t r c 4; split <;> omega) (by decide) dL_needs_341 (fun h341 => ?_) (fun h341 => ?_)
                    · exfalso; revert h341; first | (rw [if_pos (p4_b1 h284)]; omega) | (rw [if_neg (fun h => p4_b0 h284 h)]; omega)
                    · show zJW X 344 [(14, zI (thS t r c 4 - (4 - (bcZ (zan (arT t r c) 85))))), (13, zI (thS t r c 4)), (12, zI (4 - (bcZ (zan (arT t r c) 85)))), (11, zI (zbz (laT t r c))), (10, zI (zbz (ouB t r c s 8))), (9, zI (wrT t r c s)), (8, zI (mtE (mkZ s) 4)), (7, zI (arT t r c)), (6, zI (mkZ s)), (0, zR 27), (1, zR 38), (2, zR 40), (3, zI r), (4, zI c), (5, zI s)] [] M
                      refine z_iconst (pc := 344) hc 1 dL_needs_344 ?_
                      refine z_goto (pc := 345) (tgt := 349) hc (by decide) dL_needs_345 ?_
                      exact z_bret (pc := 349) (a := true) hc he rfl dL_needs_349 (⟨rfl, rfl⟩)
            · exfalso; omega
          · show zJW X 202 [(14, zI (2 * (i202 : Int))), (13, zI (thS t r c i202)), (12, zI (4 - (bcZ (zan (arT t r c) 85)))), (11, zI (zbz (laT t r c))), (10, zI (zbz (ouB t r c s 8))), (9, zI (wrT t r c s)), (8, zI (mtE (mkZ s) 4)), (7, zI (arT t r c)), (6, zI (mkZ s)), (0, zR 27), (1, zR 38), (2, zR 40), (3, zI r), (4, zI c), (5, zI s)] [] M
            have zr := zrow_bd (2 * (i202 : Int))
            have zc := zcol_bd (2 * (i202 : Int))
            have hzl := zbz_bd (laT t (r + zrow (2 * (i202 : Int))) (c + zcol (2 * (i202 : Int))))
            have hth := thS_bd t r c i202
            refine z_ilw (pc := 202) hc 0 rfl dL_needs_202 ?_
            refine z_bipush (pc := 204) hc 8 (by decide) dL_needs_204 ?_
            refine z_cge (pc := 206) (tgt := 281) hc (by omega) (by decide) dL_needs_206 (fun h206 => ?_) (fun h206 => ?_)
            · exfalso; omega
            · show zJW X 209 [(14, zI (2 * (i202 : Int))), (13, zI (thS t r c i202)), (12, zI (4 - (bcZ (zan (arT t r c) 85)))), (11, zI (zbz (laT t r c))), (10, zI (zbz (ouB t r c s 8))), (9, zI (wrT t r c s)), (8, zI (mtE (mkZ s) 4)), (7, zI (arT t r c)), (6, zI (mkZ s)), (0, zR 27), (1, zR 38), (2, zR 40), (3, zI r), (4, zI c), (5, zI s)] [] M
              refine z_ild (pc := 209) hc 12 rfl dL_needs_209 ?_
              refine z_ilw (pc := 210) hc 0 rfl dL_needs_210 ?_
              refine kc_L_10 (pc := 212) hc rfl (zfitG (Nat.le_of_ble_eq_true rfl) (fun i hi => by first | cases hi | (simp only [zflX, zfl0, Bool.or_eq_true, decide_eq_true_eq] at hi ⊢; omega)) (fun h => by first | rfl | cases h)) (Nat.le_of_ble_eq_true rfl) (ct_L_side M (2 * (i202 : Int)) (by omega)) dL_needs_212 ?_
              refine z_iadd (pc := 215) hc dL_needs_215 ?_
              refine z_isw (pc := 216) (lv' := [(15, zI (r + (zrow (2 * (i202 : Int))))), (14, zI (2 * (i202 : Int))), (13, zI (thS t r c i202)), (12, zI (4 - (bcZ (zan (arT t r c) 85)))), (11, zI (zbz (laT t r c))), (10, zI (zbz (ouB t r c s 8))), (9, zI (wrT t r c s)), (8, zI (mtE (mkZ s) 4)), (7, zI (arT t r c)), (6, zI (mkZ s)), (0, zR 27), (1, zR 38), (2, zR 40), (3, zI r), (4, zI c), (5, zI s)]) hc rfl (Nat.le_of_ble_eq_true rfl) dL_needs_216 ?_
              refine z_ilw (pc := 218) hc 14 rfl dL_needs_218 ?_
              refine z_ilw (pc := 220) hc 1 rfl dL_needs_220 ?_
              refine kc_L_16 (pc := 222) hc rfl (zfitG (Nat.le_of_ble_eq_true rfl) (fun i hi => by first | cases hi | (simp only [zflX, zfl0, Bool.or_eq_true, decide_eq_true_eq] at hi ⊢; omega)) (fun h => by first | rfl | cases h)) (Nat.le_of_ble_eq_true rfl) (ct_L_across M (2 * (i202 : Int)) (by omega)) dL_needs_222 ?_
              refine z_iadd (pc := 225) hc dL_needs_225 ?_
              refine z_isw (pc := 226) (lv' := [(16, zI (c + (zcol (2 * (i202 : Int))))), (15, zI (r + (zrow (2 * (i202 : Int))))), (14, zI (2 * (i202 : Int))), (13, zI (thS t r c i202)), (12, zI (4 - (bcZ (zan (arT t r c) 85)))), (11, zI (zbz (laT t r c))), (10, zI (zbz (ouB t r c s 8))), (9, zI (wrT t r c s)), (8, zI (mtE (mkZ s) 4)), (7, zI (arT t r c)), (6, zI (mkZ s)), (0, zR 27), (1, zR 38), (2, zR 40), (3, zI r), (4, zI c), (5, zI s)]) hc rfl (Nat.le_of_ble_eq_true rfl) dL_needs_226 ?_
              refine z_ilw (pc := 228) hc 3 rfl dL_needs_228 ?_
              refine z_ilw (pc := 230) hc 9 rfl dL_needs_230 ?_
              refine z_ilw (pc := 232) hc 2 rfl dL_needs_232 ?_
              refine z_ishr (pc := 234) hc dL_needs_234 ?_
              refine z_iconst (pc := 235) hc 1 dL_needs_235 ?_
              refine z_iand (pc := 236) hc dL_needs_236 ?_
              refine zJW_eq (st' := [zI (zbz (laT t (r + zrow (2 * (i202 : Int))) (c + zcol (2 * (i202 : Int))))), zI (thS t r c i202)]) rfl (by rw [arT_bit2 t r c hi202]) rfl ?_
              refine z_iconst (pc := 237) hc 1 dL_needs_237 ?_
              refine z_cne (pc := 238) (tgt := 271) hc (by omega) (by decide) dL_needs_238 (fun h238 => ?_) (fun h238 => ?_)
              · show zJW X 271 [(16, zI (c + (zcol (2 * (i202 : Int))))), (15, zI (r + (zrow (2 * (i202 : Int))))), (14, zI (2 * (i202 : Int))), (13, zI (thS t r c i202)), (12, zI (4 - (bcZ (zan (arT t r c) 85)))), (11, zI (zbz (laT t r c))), (10, zI (zbz (ouB t r c s 8))), (9, zI (wrT t r c s)), (8, zI (mtE (mkZ s) 4)), (7, zI (arT t r c)), (6, zI (mkZ s)), (0, zR 27), (1, zR 38), (2, zR 40), (3, zI r), (4, zI c), (5, zI s)] [zI (thS t r c i202)] M
                refine z_iconst (pc := 271) hc 0 dL_needs_271 ?_
                refine z_iadd (pc := 272) hc dL_needs_272 ?_
                refine z_isw (pc := 273) (lv' := [(13, zI (thS t r c i202 + 0)), (16, zI (c + (zcol (2 * (i202 : Int))))), (15, zI (r + (zrow (2 * (i202 : Int))))), (14, zI (2 * (i202 : Int))), (12, zI (4 - (bcZ (zan (arT t r c) 85)))), (11, zI (zbz (laT t r c))), (10, zI (zbz (ouB t r c s 8))), (9, zI (wrT t r c s)), (8, zI (mtE (mkZ s) 4)), (7, zI (arT t r c)), (6, zI (mkZ s)), (0, zR 27), (1, zR 38), (2, zR 40), (3, zI r), (4, zI c), (5, zI s)]) hc rfl (Nat.le_of_ble_eq_true rfl) dL_needs_273 ?_
                refine z_iinc (pc := 275) (lv' := [(14, zI ((2 * (i202 : Int)) + 2)), (13, zI (thS t r c i202 + 0)), (16, zI (c + (zcol (2 * (i202 : Int))))), (15, zI (r + (zrow (2 * (i202 : Int))))), (12, zI (4 - (bcZ (zan (arT t r c) 85)))), (11, zI (zbz (laT t r c))), (10, zI (zbz (ouB t r c s 8))), (9, zI (wrT t r c s)), (8, zI (mtE (mkZ s) 4)), (7, zI (arT t r c)), (6, zI (mkZ s)), (0, zR 27), (1, zR 38), (2, zR 40), (3, zI r), (4, zI c), (5, zI s)]) hc 3 rfl rfl (Nat.le_of_ble_eq_true rfl) dL_needs_275 ?_
                refine z_goto (pc := 278) (tgt := 202) hc (by decide) dL_needs_278 ?_
                refine zJW_sub (lv' := [(14, zI ((2 * (i202 : Int)) + 2)), (13, zI (thS t r c i202 + 0)), (12, zI (4 - (bcZ (zan (arT t r c) 85)))), (11, zI (zbz (laT t r c))), (10, zI (zbz (ouB t r c s 8))), (9, zI (wrT t r c s)), (8, zI (mtE (mkZ s) 4)), (7, zI (arT t r c)), (6, zI (mkZ s)), (0, zR 27), (1, zR 38), (2, zR 40), (3, zI r), (4, zI c), (5, zI s)]) [0, 1, 4, 5, 6, 7, 8, 9, 10, 11, 12, 13, 14, 15, 16] rfl ?_
                exact zJW_eq (by rw [show (2 * (i202 : Int) + 2) = 2 * ((i202 + 1 : Nat) : Int) by omega]; unfold thS; rw [zS1_s]; first | (rw [if_pos ⟨p4_b1 h238, inT_of (by omega)⟩] <;> rfl) | (rw [if_neg (fun h => p4_b0 h238 h.1)] <;> rfl) | (rw [if_neg (fun h => by have := inT_bd h.2; omega)] <;> rfl)) rfl (by rfl) ih202
              · show zJW X 241 [(16, zI (c + (zcol (2 * (i202 : Int))))), (15, zI (r + (zrow (2 * (i202 : Int))))), (14, zI (2 * (i202 : Int))), (13, zI (thS t r c i202)), (12, zI (4 - (bcZ (zan (arT t r c) 85)))), (11, zI (zbz (laT t r c))), (10, zI (zbz (ouB t r c s 8))), (9, zI (wrT t r c s)), (8, zI (mtE (mkZ s) 4)), (7, zI (arT t r c)), (6, zI (mkZ s)), (0, zR 27), (1, zR 38), (2, zR 40), (3, zI r), (4, zI c), (5, zI s)] [zI (thS t r c i202)] M
                refine z_ilw (pc := 241) hc 1 rfl dL_needs_241 ?_
                refine z_ilt (pc := 243) (tgt := 271) hc (by omega) (by decide) dL_needs_243 (fun h243 => ?_) (fun h243 => ?_)
                · show zJW X 271 [(16, zI (c + (zcol (2 * (i202 : Int))))), (15, zI (r + (zrow (2 * (i202 : Int))))), (14, zI (2 * (i202 : Int))), (13, zI (thS t r c i202)), (12, zI (4 - (bcZ (zan (arT t r c) 85)))), (11, zI (zbz (laT t r c))), (10, zI (zbz (ouB t r c s 8))), (9, zI (wrT t r c s)), (8, zI (mtE (mkZ s) 4)), (7, zI (arT t r c)), (6, zI (mkZ s)), (0, zR 27), (1, zR 38), (2, zR 40), (3, zI r), (4, zI c), (5, zI s)] [zI (thS t r c i202)] M
                  refine z_iconst (pc := 271) hc 0 dL_needs_271 ?_
                  refine z_iadd (pc := 272) hc dL_needs_272 ?_
                  refine z_isw (pc := 273) (lv' := [(13, zI (thS t r c i202 + 0)), (16, zI (c + (zcol (2 * (i202 : Int))))), (15, zI (r + (zrow (2 * (i202 : Int))))), (14, zI (2 * (i202 : Int))), (12, zI (4 - (bcZ (zan (arT t r c) 85)))), (11, zI (zbz (laT t r c))), (10, zI (zbz (ouB t r c s 8))), (9, zI (wrT t r c s)), (8, zI (mtE (mkZ s) 4)), (7, zI (arT t r c)), (6, zI (mkZ s)), (0, zR 27), (1, zR 38), (2, zR 40), (3, zI r), (4, zI c), (5, zI s)]) hc rfl (Nat.le_of_ble_eq_true rfl) dL_needs_273 ?_
                  refine z_iinc (pc := 275) (lv' := [(14, zI ((2 * (i202 : Int)) + 2)), (13, zI (thS t r c i202 + 0)), (16, zI (c + (zcol (2 * (i202 : Int))))), (15, zI (r + (zrow (2 * (i202 : Int))))), (12, zI (4 - (bcZ (zan (arT t r c) 85)))), (11, zI (zbz (laT t r c))), (10, zI (zbz (ouB t r c s 8))), (9, zI (wrT t r c s)), (8, zI (mtE (mkZ s) 4)), (7, zI (arT t r c)), (6, zI (mkZ s)), (0, zR 27), (1, zR 38), (2, zR 40), (3, zI r), (4, zI c), (5, zI s)]) hc 3 rfl rfl (Nat.le_of_ble_eq_true rfl) dL_needs_275 ?_
                  refine z_goto (pc := 278) (tgt := 202) hc (by decide) dL_needs_278 ?_
                  refine zJW_sub (lv' := [(14, zI ((2 * (i202 : Int)) + 2)), (13, zI (thS t r c i202 + 0)), (12, zI (4 - (bcZ (zan (arT t r c) 85)))), (11, zI (zbz (laT t r c))), (10, zI (zbz (ouB t r c s 8))), (9, zI (wrT t r c s)), (8, zI (mtE (mkZ s) 4)), (7, zI (arT t r c)), (6, zI (mkZ s)), (0, zR 27), (1, zR 38), (2, zR 40), (3, zI r), (4, zI c), (5, zI s)]) [0, 1, 4, 5, 6, 7, 8, 9, 10, 11, 12, 13, 14, 15, 16] rfl ?_
                  exact zJW_eq (by rw [show (2 * (i202 : Int) + 2) = 2 * ((i202 + 1 : Nat) : Int) by omega]; unfold thS; rw [zS1_s]; first | (rw [if_pos ⟨p4_b1 h238, inT_of (by omega)⟩] <;> rfl) | (rw [if_neg (fun h => p4_b0 h238 h.1)] <;> rfl) | (rw [if_neg (fun h => by have := inT_bd h.2; omega)] <;> rfl)) rfl (by rfl) ih202
                · show zJW X 246 [(16, zI (c + (zcol (2 * (i202 : Int))))), (15, zI (r + (zrow (2 * (i202 : Int))))), (14, zI (2 * (i202 : Int))), (13, zI (thS t r c i202)), (12, zI (4 - (bcZ (zan (arT t r c) 85)))), (11, zI (zbz (laT t r c))), (10, zI (zbz (ouB t r c s 8))), (9, zI (wrT t r c s)), (8, zI (mtE (mkZ s) 4)), (7, zI (arT t r c)), (6, zI (mkZ s)), (0, zR 27), (1, zR 38), (2, zR 40), (3, zI r), (4, zI c), (5, zI s)] [zI (thS t r c i202)] M
                  refine z_ilw (pc := 246) hc 1 rfl dL_needs_246 ?_
                  refine z_ald (pc := 248) hc 13 rfl dL_needs_248 ?_
                  refine z_iconst (pc := 249) hc 0 dL_needs_249 ?_
                  refine z_iald (pc := 250) hc (by decide) rfl rfl (by decide) (by omega) dL_needs_250 ?_
                  refine z_cge (pc := 251) (tgt := 271) hc (by omega) (by decide) dL_needs_251 (fun h251 => ?_) (fun h251 => ?_)
                  · show zJW X 271 [(16, zI (c + (zcol (2 * (i202 : Int))))), (15, zI (r + (zrow (2 * (i202 : Int))))), (14, zI (2 * (i202 : Int))), (13, zI (thS t r c i202)), (12, zI (4 - (bcZ (zan (arT t r c) 85)))), (11, zI (zbz (laT t r c))), (10, zI (zbz (ouB t r c s 8))), (9, zI (wrT t r c s)), (8, zI (mtE (mkZ s) 4)), (7, zI (arT t r c)), (6, zI (mkZ s)), (0, zR 27), (1, zR 38), (2, zR 40), (3, zI r), (4, zI c), (5, zI s)] [zI (thS t r c i202)] M
                    refine z_iconst (pc := 271) hc 0 dL_needs_271 ?_
                    refine z_iadd (pc := 272) hc dL_needs_272 ?_
                    refine z_isw (pc := 273) (lv' := [(13, zI (thS t r c i202 + 0)), (16, zI (c + (zcol (2 * (i202 : Int))))), (15, zI (r + (zrow (2 * (i202 : Int))))), (14, zI (2 * (i202 : Int))), (12, zI (4 - (bcZ (zan (arT t r c) 85)))), (11, zI (zbz (laT t r c))), (10, zI (zbz (ouB t r c s 8))), (9, zI (wrT t r c s)), (8, zI (mtE (mkZ s) 4)), (7, zI (arT t r c)), (6, zI (mkZ s)), (0, zR 27), (1, zR 38), (2, zR 40), (3, zI r), (4, zI c), (5, zI s)]) hc rfl (Nat.le_of_ble_eq_true rfl) dL_needs_273 ?_
                    refine z_iinc (pc := 275) (lv' := [(14, zI ((2 * (i202 : Int)) + 2)), (13, zI (thS t r c i202 + 0)), (16, zI (c + (zcol (2 * (i202 : Int))))), (15, zI (r + (zrow (2 * (i202 : Int))))), (12, zI (4 - (bcZ (zan (arT t r c) 85)))), (11, zI (zbz (laT t r c))), (10, zI (zbz (ouB t r c s 8))), (9, zI (wrT t r c s)), (8, zI (mtE (mkZ s) 4)), (7, zI (arT t r c)), (6, zI (mkZ s)), (0, zR 27), (1, zR 38), (2, zR 40), (3, zI r), (4, zI c), (5, zI s)]) hc 3 rfl rfl (Nat.le_of_ble_eq_true rfl) dL_needs_275 ?_
                    refine z_goto (pc := 278) (tgt := 202) hc (by decide) dL_needs_278 ?_
                    refine zJW_sub (lv' := [(14, zI ((2 * (i202 : Int)) + 2)), (13, zI (thS t r c i202 + 0)), (12, zI (4 - (bcZ (zan (arT t r c) 85)))), (11, zI (zbz (laT t r c))), (10, zI (zbz (ouB t r c s 8))), (9, zI (wrT t r c s)), (8, zI (mtE (mkZ s) 4)), (7, zI (arT t r c)), (6, zI (mkZ s)), (0, zR 27), (1, zR 38), (2, zR 40), (3, zI r), (4, zI c), (5, zI s)]) [0, 1, 4, 5, 6, 7, 8, 9, 10, 11, 12, 13, 14, 15, 16] rfl ?_
                    exact zJW_eq (by rw [show (2 * (i202 : Int) + 2) = 2 * ((i202 + 1 : Nat) : Int) by omega]; unfold thS; rw [zS1_s]; first | (rw [if_pos ⟨p4_b1 h238, inT_of (by omega)⟩] <;> rfl) | (rw [if_neg (fun h => p4_b0 h238 h.1)] <;> rfl) | (rw [if_neg (fun h => by have := inT_bd h.2; omega)] <;> rfl)) rfl (by rfl) ih202
                  · show zJW X 254 [(16, zI (c + (zcol (2 * (i202 : Int))))), (15, zI (r + (zrow (2 * (i202 : Int))))), (14, zI (2 * (i202 : Int))), (13, zI (thS t r c i202)), (12, zI (4 - (bcZ (zan (arT t r c) 85)))), (11, zI (zbz (laT t r c))), (10, zI (zbz (ouB t r c s 8))), (9, zI (wrT t r c s)), (8, zI (mtE (mkZ s) 4)), (7, zI (arT t r c)), (6, zI (mkZ s)), (0, zR 27), (1, zR 38), (2, zR 40), (3, zI r), (4, zI c), (5, zI s)] [zI (thS t r c i202)] M
                    refine z_ilw (pc := 254) hc 0 rfl dL_needs_254 ?_
                    refine z_ilt (pc := 256) (tgt := 271) hc (by omega) (by decide) dL_needs_256 (fun h256 => ?_) (fun h256 => ?_)
                    · show zJW X 271 [(16, zI (c + (zcol (2 * (i202 : Int))))), (15, zI (r + (zrow (2 * (i202 : Int))))), (14, zI (2 * (i202 : Int))), (13, zI (thS t r c i202)), (12, zI (4 - (bcZ (zan (arT t r c) 85)))), (11, zI (zbz (laT t r c))), (10, zI (zbz (ouB t r c s 8))), (9, zI (wrT t r c s)), (8, zI (mtE (mkZ s) 4)), (7, zI (arT t r c)), (6, zI (mkZ s)), (0, zR 27), (1, zR 38), (2, zR 40), (3, zI r), (4, zI c), (5, zI s)] [zI (thS t r c i202)] M
                      refine z_iconst (pc := 271) hc 0 dL_needs_271 ?_
                      refine z_iadd (pc := 272) hc dL_needs_272 ?_
                      refine z_isw (pc := 273) (lv' := [(13, zI (thS t r c i202 + 0)), (16, zI (c + (zcol (2 * (i202 : Int))))), (15, zI (r + (zrow (2 * (i202 : Int))))), (14, zI (2 * (i202 : Int))), (12, zI (4 - (bcZ (zan (arT t r c) 85)))), (11, zI (zbz (laT t r c))), (10, zI (zbz (ouB t r c s 8))), (9, zI (wrT t r c s)), (8, zI (mtE (mkZ s) 4)), (7, zI (arT t r c)), (6, zI (mkZ s)), (0, zR 27), (1, zR 38), (2, zR 40), (3, zI r), (4, zI c), (5, zI s)]) hc rfl (Nat.le_of_ble_eq_true rfl) dL_needs_273 ?_
                      refine z_iinc (pc := 275) (lv' := [(14, zI ((2 * (i202 : Int)) + 2)), (13, zI (thS t r c i202 + 0)), (16, zI (c + (zcol (2 * (i202 : Int))))), (15, zI (r + (zrow (2 * (i202 : Int))))), (12, zI (4 - (bcZ (zan (arT t r c) 85)))), (11, zI (zbz (laT t r c))), (10, zI (zbz (ouB t r c s 8))), (9, zI (wrT t r c s)), (8, zI (mtE (mkZ s) 4)), (7, zI (arT t r c)), (6, zI (mkZ s)), (0, zR 27), (1, zR 38), (2, zR 40), (3, zI r), (4, zI c), (5, zI s)]) hc 3 rfl rfl (Nat.le_of_ble_eq_true rfl) dL_needs_275 ?_
                      refine z_goto (pc := 278) (tgt := 202) hc (by decide) dL_needs_278 ?_
                      refine zJW_sub (lv' := [(14, zI ((2 * (i202 : Int)) + 2)), (13, zI (thS t r c i202 + 0)), (12, zI (4 - (bcZ (zan (arT t r c) 85)))), (11, zI (zbz (laT t r c))), (10, zI (zbz (ouB t r c s 8))), (9, zI (wrT t r c s)), (8, zI (mtE (mkZ s) 4)), (7, zI (arT t r c)), (6, zI (mkZ s)), (0, zR 27), (1, zR 38), (2, zR 40), (3, zI r), (4, zI c), (5, zI s)]) [0, 1, 4, 5, 6, 7, 8, 9, 10, 11, 12, 13, 14, 15, 16] rfl ?_
                      exact zJW_eq (by rw [show (2 * (i202 : Int) + 2) = 2 * ((i202 + 1 : Nat) : Int) by omega]; unfold thS; rw [zS1_s]; first | (rw [if_pos ⟨p4_b1 h238, inT_of (by omega)⟩] <;> rfl) | (rw [if_neg (fun h => p4_b0 h238 h.1)] <;> rfl) | (rw [if_neg (fun h => by have := inT_bd h.2; omega)] <;> rfl)) rfl (by rfl) ih202
                    · show zJW X 259 [(16, zI (c + (zcol (2 * (i202 : Int))))), (15, zI (r + (zrow (2 * (i202 : Int))))), (14, zI (2 * (i202 : Int))), (13, zI (thS t r c i202)), (12, zI (4 - (bcZ (zan (arT t r c) 85)))), (11, zI (zbz (laT t r c))), (10, zI (zbz (ouB t r c s 8))), (9, zI (wrT t r c s)), (8, zI (mtE (mkZ s) 4)), (7, zI (arT t r c)), (6, zI (mkZ s)), (0, zR 27), (1, zR 38), (2, zR 40), (3, zI r), (4, zI c), (5, zI s)] [zI (thS t r c i202)] M
                      refine z_ilw (pc := 259) hc 0 rfl dL_needs_259 ?_
                      refine z_ald (pc := 261) hc 13 rfl dL_needs_261 ?_
                      refine z_iconst (pc := 262) hc 1 dL_needs_262 ?_
                      refine z_iald (pc := 263) hc (by decide) rfl rfl (by decide) (by omega) dL_needs_263 ?_
                      refine z_cge (pc := 264) (tgt := 271) hc (by omega) (by decide) dL_needs_264 (fun h264 => ?_) (fun h264 => ?_)
                      · show zJW X 271 [(16, zI (c + (zcol (2 * (i202 : Int))))), (15, zI (r + (zrow (2 * (i202 : Int))))), (14, zI (2 * (i202 : Int))), (13, zI (thS t r c i202)), (12, zI (4 - (bcZ (zan (arT t r c) 85)))), (11, zI (zbz (laT t r c))), (10, zI (zbz (ouB t r c s 8))), (9, zI (wrT t r c s)), (8, zI (mtE (mkZ s) 4)), (7, zI (arT t r c)), (6, zI (mkZ s)), (0, zR 27), (1, zR 38), (2, zR 40), (3, zI r), (4, zI c), (5, zI s)] [zI (thS t r c i202)] M
                        refine z_iconst (pc := 271) hc 0 dL_needs_271 ?_
                        refine z_iadd (pc := 272) hc dL_needs_272 ?_
                        refine z_isw (pc := 273) (lv' := [(13, zI (thS t r c i202 + 0)), (16, zI (c + (zcol (2 * (i202 : Int))))), (15, zI (r + (zrow (2 * (i202 : Int))))), (14, zI (2 * (i202 : Int))), (12, zI (4 - (bcZ (zan (arT t r c) 85)))), (11, zI (zbz (laT t r c))), (10, zI (zbz (ouB t r c s 8))), (9, zI (wrT t r c s)), (8, zI (mtE (mkZ s) 4)), (7, zI (arT t r c)), (6, zI (mkZ s)), (0, zR 27), (1, zR 38), (2, zR 40), (3, zI r), (4, zI c), (5, zI s)]) hc rfl (Nat.le_of_ble_eq_true rfl) dL_needs_273 ?_
                        refine z_iinc (pc := 275) (lv' := [(14, zI ((2 * (i202 : Int)) + 2)), (13, zI (thS t r c i202 + 0)), (16, zI (c + (zcol (2 * (i202 : Int))))), (15, zI (r + (zrow (2 * (i202 : Int))))), (12, zI (4 - (bcZ (zan (arT t r c) 85)))), (11, zI (zbz (laT t r c))), (10, zI (zbz (ouB t r c s 8))), (9, zI (wrT t r c s)), (8, zI (mtE (mkZ s) 4)), (7, zI (arT t r c)), (6, zI (mkZ s)), (0, zR 27), (1, zR 38), (2, zR 40), (3, zI r), (4, zI c), (5, zI s)]) hc 3 rfl rfl (Nat.le_of_ble_eq_true rfl) dL_needs_275 ?_
                        refine z_goto (pc := 278) (tgt := 202) hc (by decide) dL_needs_278 ?_
                        refine zJW_sub (lv' := [(14, zI ((2 * (i202 : Int)) + 2)), (13, zI (thS t r c i202 + 0)), (12, zI (4 - (bcZ (zan (arT t r c) 85)))), (11, zI (zbz (laT t r c))), (10, zI (zbz (ouB t r c s 8))), (9, zI (wrT t r c s)), (8, zI (mtE (mkZ s) 4)), (7, zI (arT t r c)), (6, zI (mkZ s)), (0, zR 27), (1, zR 38), (2, zR 40), (3, zI r), (4, zI c), (5, zI s)]) [0, 1, 4, 5, 6, 7, 8, 9, 10, 11, 12, 13, 14, 15, 16] rfl ?_
                        exact zJW_eq (by rw [show (2 * (i202 : Int) + 2) = 2 * ((i202 + 1 : Nat) : Int) by omega]; unfold thS; rw [zS1_s]; first | (rw [if_pos ⟨p4_b1 h238, inT_of (by omega)⟩] <;> rfl) | (rw [if_neg (fun h => p4_b0 h238 h.1)] <;> rfl) | (rw [if_neg (fun h => by have := inT_bd h.2; omega)] <;> rfl)) rfl (by rfl) ih202
                      · show zJW X 267 [(16, zI (c + (zcol (2 * (i202 : Int))))), (15, zI (r + (zrow (2 * (i202 : Int))))), (14, zI (2 * (i202 : Int))), (13, zI (thS t r c i202)), (12, zI (4 - (bcZ (zan (arT t r c) 85)))), (11, zI (zbz (laT t r c))), (10, zI (zbz (ouB t r c s 8))), (9, zI (wrT t r c s)), (8, zI (mtE (mkZ s) 4)), (7, zI (arT t r c)), (6, zI (mkZ s)), (0, zR 27), (1, zR 38), (2, zR 40), (3, zI r), (4, zI c), (5, zI s)] [zI (thS t r c i202)] M
                        refine z_iconst (pc := 267) hc 1 dL_needs_267 ?_
                        refine z_goto (pc := 268) (tgt := 272) hc (by decide) dL_needs_268 ?_
                        refine z_iadd (pc := 272) hc dL_needs_272 ?_
                        refine z_isw (pc := 273) (lv' := [(13, zI (thS t r c i202 + 1)), (16, zI (c + (zcol (2 * (i202 : Int))))), (15, zI (r + (zrow (2 * (i202 : Int))))), (14, zI (2 * (i202 : Int))), (12, zI (4 - (bcZ (zan (arT t r c) 85)))), (11, zI (zbz (laT t r c))), (10, zI (zbz (ouB t r c s 8))), (9, zI (wrT t r c s)), (8, zI (mtE (mkZ s) 4)), (7, zI (arT t r c)), (6, zI (mkZ s)), (0, zR 27), (1, zR 38), (2, zR 40), (3, zI r), (4, zI c), (5, zI s)]) hc rfl (Nat.le_of_ble_eq_true rfl) dL_needs_273 ?_
                        refine z_iinc (pc := 275) (lv' := [(14, zI ((2 * (i202 : Int)) + 2)), (13, zI (thS t r c i202 + 1)), (16, zI (c + (zcol (2 * (i202 : Int))))), (15, zI (r + (zrow (2 * (i202 : Int))))), (12, zI (4 - (bcZ (zan (arT t r c) 85)))), (11, zI (zbz (laT t r c))), (10, zI (zbz (ouB t r c s 8))), (9, zI (wrT t r c s)), (8, zI (mtE (mkZ s) 4)), (7, zI (arT t r c)), (6, zI (mkZ s)), (0, zR 27), (1, zR 38), (2, zR 40), (3, zI r), (4, zI c), (5, zI s)]) hc 3 rfl rfl (Nat.le_of_ble_eq_true rfl) dL_needs_275 ?_
                        refine z_goto (pc := 278) (tgt := 202) hc (by decide) dL_needs_278 ?_
                        refine zJW_sub (lv' := [(14, zI ((2 * (i202 : Int)) + 2)), (13, zI (thS t r c i202 + 1)), (12, zI (4 - (bcZ (zan (arT t r c) 85)))), (11, zI (zbz (laT t r c))), (10, zI (zbz (ouB t r c s 8))), (9, zI (wrT t r c s)), (8, zI (mtE (mkZ s) 4)), (7, zI (arT t r c)), (6, zI (mkZ s)), (0, zR 27), (1, zR 38), (2, zR 40), (3, zI r), (4, zI c), (5, zI s)]) [0, 1, 4, 5, 6, 7, 8, 9, 10, 11, 12, 13, 14, 15, 16] rfl ?_
                        exact zJW_eq (by rw [show (2 * (i202 : Int) + 2) = 2 * ((i202 + 1 : Nat) : Int) by omega]; unfold thS; rw [zS1_s]; first | (rw [if_pos ⟨p4_b1 h238, inT_of (by omega)⟩] <;> rfl) | (rw [if_neg (fun h => p4_b0 h238 h.1)] <;> rfl) | (rw [if_neg (fun h => by have := inT_bd h.2; omega)] <;> rfl)) rfl (by rfl) ih202
        · exfalso; omega
      · show zJW X 94 [(11, zI (i94 : Int)), (10, zI (zbz (ouB t r c s i94))), (9, zI (wrT t r c s)), (8, zI (mtE (mkZ s) 4)), (7, zI (arT t r c)), (6, zI (mkZ s)), (0, zR 27), (1, zR 38), (2, zR 40), (3, zI r), (4, zI c), (5, zI s)] [] M
        have zr := zrow_bd i94
        have zc := zcol_bd i94
        have hzw := zbz_bd (zwr t r c s i94)
        refine z_ilw (pc := 94) hc 0 rfl dL_needs_94 ?_
        refine z_bipush (pc := 96) hc 8 (by decide) dL_needs_96 ?_
        refine z_cge (pc := 98) (tgt := 175) hc (by omega) (by decide) dL_needs_98 (fun h98 => ?_) (fun h98 => ?_)
        · exfalso; omega
        · show zJW X 101 [(11, zI (i94 : Int)), (10, zI (zbz (ouB t r c s i94))), (9, zI (wrT t r c s)), (8, zI (mtE (mkZ s) 4)), (7, zI (arT t r c)), (6, zI (mkZ s)), (0, zR 27), (1, zR 38), (2, zR 40), (3, zI r), (4, zI c), (5, zI s)] [] M
          refine z_ild (pc := 101) hc 9 rfl dL_needs_101 ?_
          refine z_ilw (pc := 102) hc 0 rfl dL_needs_102 ?_
          refine kc_L_10 (pc := 104) hc rfl (zfitG (Nat.le_of_ble_eq_true rfl) (fun i hi => by first | cases hi | (simp only [zflX, zfl0, Bool.or_eq_true, decide_eq_true_eq] at hi ⊢; omega)) (fun h => by first | rfl | cases h)) (Nat.le_of_ble_eq_true rfl) (ct_L_side M (i94 : Int) (by omega)) dL_needs_104 ?_
          refine z_iadd (pc := 107) hc dL_needs_107 ?_
          refine z_isw (pc := 108) (lv' := [(12, zI (r + (zrow (i94 : Int)))), (11, zI (i94 : Int)), (10, zI (zbz (ouB t r c s i94))), (9, zI (wrT t r c s)), (8, zI (mtE (mkZ s) 4)), (7, zI (arT t r c)), (6, zI (mkZ s)), (0, zR 27), (1, zR 38), (2, zR 40), (3, zI r), (4, zI c), (5, zI s)]) hc rfl (Nat.le_of_ble_eq_true rfl) dL_needs_108 ?_
          refine z_ilw (pc := 110) hc 11 rfl dL_needs_110 ?_
          refine z_ilw (pc := 112) hc 1 rfl dL_needs_112 ?_
          refine kc_L_16 (pc := 114) hc rfl (zfitG (Nat.le_of_ble_eq_true rfl) (fun i hi => by first | cases hi | (simp only [zflX, zfl0, Bool.or_eq_true, decide_eq_true_eq] at hi ⊢; omega)) (fun h => by first | rfl | cases h)) (Nat.le_of_ble_eq_true rfl) (ct_L_across M (i94 : Int) (by omega)) dL_needs_114 ?_
          refine z_iadd (pc := 117) hc dL_needs_117 ?_
          refine z_isw (pc := 118) (lv' := [(13, zI (c + (zcol (i94 : Int)))), (12, zI (r + (zrow (i94 : Int)))), (11, zI (i94 : Int)), (10, zI (zbz (ouB t r c s i94))), (9, zI (wrT t r c s)), (8, zI (mtE (mkZ s) 4)), (7, zI (arT t r c)), (6, zI (mkZ s)), (0, zR 27), (1, zR 38), (2, zR 40), (3, zI r), (4, zI c), (5, zI s)]) hc rfl (Nat.le_of_ble_eq_true rfl) dL_needs_118 ?_
          refine z_ilw (pc := 120) hc 3 rfl dL_needs_120 ?_
          refine z_bne (pc := 122) (tgt := 162) hc (by decide) dL_needs_122 (fun h122 => ?_) (fun h122 => ?_)
          · show zJW X 162 [(13, zI (c + (zcol (i94 : Int)))), (12, zI (r + (zrow (i94 : Int)))), (11, zI (i94 : Int)), (10, zI (zbz (ouB t r c s i94))), (9, zI (wrT t r c s)), (8, zI (mtE (mkZ s) 4)), (7, zI (arT t r c)), (6, zI (mkZ s)), (0, zR 27), (1, zR 38), (2, zR 40), (3, zI r), (4, zI c), (5, zI s)] [] M
            refine z_iconst (pc := 162) hc 1 dL_needs_162 ?_
            refine z_goto (pc := 163) (tgt := 167) hc (by decide) dL_needs_163 ?_
            refine z_isw (pc := 167) (lv' := [(10, zI 1), (13, zI (c + (zcol (i94 : Int)))), (12, zI (r + (zrow (i94 : Int)))), (11, zI (i94 : Int)), (9, zI (wrT t r c s)), (8, zI (mtE (mkZ s) 4)), (7, zI (arT t r c)), (6, zI (mkZ s)), (0, zR 27), (1, zR 38), (2, zR 40), (3, zI r), (4, zI c), (5, zI s)]) hc rfl (Nat.le_of_ble_eq_true rfl) dL_needs_167 ?_
            refine z_iinc (pc := 169) (lv' := [(11, zI ((i94 : Int) + 1)), (10, zI 1), (13, zI (c + (zcol (i94 : Int)))), (12, zI (r + (zrow (i94 : Int)))), (9, zI (wrT t r c s)), (8, zI (mtE (mkZ s) 4)), (7, zI (arT t r c)), (6, zI (mkZ s)), (0, zR 27), (1, zR 38), (2, zR 40), (3, zI r), (4, zI c), (5, zI s)]) hc 3 rfl rfl (Nat.le_of_ble_eq_true rfl) dL_needs_169 ?_
            refine z_goto (pc := 172) (tgt := 94) hc (by decide) dL_needs_172 ?_
            refine zJW_sub (lv' := [(11, zI ((i94 : Int) + 1)), (10, zI 1), (9, zI (wrT t r c s)), (8, zI (mtE (mkZ s) 4)), (7, zI (arT t r c)), (6, zI (mkZ s)), (0, zR 27), (1, zR 38), (2, zR 40), (3, zI r), (4, zI c), (5, zI s)]) [0, 1, 4, 5, 6, 7, 8, 9, 10, 11, 12, 13] rfl ?_
            exact zJW_eq (by first | (rw [p4_ouK h122] <;> rfl) | (rw [p4_ouT h133 (inT_f (by omega))] <;> rfl) | (rw [p4_ouF1 h122 h133] <;> rfl) | (rw [p4_ouF2 h122 (inT_of (by omega))] <;> rfl)) rfl (by rfl) ih94
          · show zJW X 125 [(13, zI (c + (zcol (i94 : Int)))), (12, zI (r + (zrow (i94 : Int)))), (11, zI (i94 : Int)), (10, zI (zbz (ouB t r c s i94))), (9, zI (wrT t r c s)), (8, zI (mtE (mkZ s) 4)), (7, zI (arT t r c)), (6, zI (mkZ s)), (0, zR 27), (1, zR 38), (2, zR 40), (3, zI r), (4, zI c), (5, zI s)] [] M
            refine z_ilw (pc := 125) hc 4 rfl dL_needs_125 ?_
            refine z_ilw (pc := 127) hc 2 rfl dL_needs_127 ?_
            refine z_ishr (pc := 129) hc dL_needs_129 ?_
            refine z_iconst (pc := 130) hc 1 dL_needs_130 ?_
            refine z_iand (pc := 131) hc dL_needs_131 ?_
            refine zJW_eq (st' := [zI (zbz (zwr t r c s i94))]) rfl (by rw [zwr_bit hs hi94]) rfl ?_
            refine z_iconst (pc := 132) hc 1 dL_needs_132 ?_
            refine z_cne (pc := 133) (tgt := 166) hc (by omega) (by decide) dL_needs_133 (fun h133 => ?_) (fun h133 => ?_)
            · show zJW X 166 [(13, zI (c + (zcol (i94 : Int)))), (12, zI (r + (zrow (i94 : Int)))), (11, zI (i94 : Int)), (10, zI (zbz (ouB t r c s i94))), (9, zI (wrT t r c s)), (8, zI (mtE (mkZ s) 4)), (7, zI (arT t r c)), (6, zI (mkZ s)), (0, zR 27), (1, zR 38), (2, zR 40), (3, zI r), (4, zI c), (5, zI s)] [] M
              refine z_iconst (pc := 166) hc 0 dL_needs_166 ?_
              refine z_isw (pc := 167) (lv' := [(10, zI 0), (13, zI (c + (zcol (i94 : Int)))), (12, zI (r + (zrow (i94 : Int)))), (11, zI (i94 : Int)), (9, zI (wrT t r c s)), (8, zI (mtE (mkZ s) 4)), (7, zI (arT t r c)), (6, zI (mkZ s)), (0, zR 27), (1, zR 38), (2, zR 40), (3, zI r), (4, zI c), (5, zI s)]) hc rfl (Nat.le_of_ble_eq_true rfl) dL_needs_167 ?_
              refine z_iinc (pc := 169) (lv' := [(11, zI ((i94 : Int) + 1)), (10, zI 0), (13, zI (c + (zcol (i94 : Int)))), (12, zI (r + (zrow (i94 : Int)))), (9, zI (wrT t r c s)), (8, zI (mtE (mkZ s) 4)), (7, zI (arT t r c)), (6, zI (mkZ s)), (0, zR 27), (1, zR 38), (2, zR 40), (3, zI r), (4, zI c), (5, zI s)]) hc 3 rfl rfl (Nat.le_of_ble_eq_true rfl) dL_needs_169 ?_
              refine z_goto (pc := 172) (tgt := 94) hc (by decide) dL_needs_172 ?_
              refine zJW_sub (lv' := [(11, zI ((i94 : Int) + 1)), (10, zI 0), (9, zI (wrT t r c s)), (8, zI (mtE (mkZ s) 4)), (7, zI (arT t r c)), (6, zI (mkZ s)), (0, zR 27), (1, zR 38), (2, zR 40), (3, zI r), (4, zI c), (5, zI s)]) [0, 1, 4, 5, 6, 7, 8, 9, 10, 11, 12, 13] rfl ?_
              exact zJW_eq (by first | (rw [p4_ouK h122] <;> rfl) | (rw [p4_ouT h133 (inT_f (by omega))] <;> rfl) | (rw [p4_ouF1 h122 h133] <;> rfl) | (rw [p4_ouF2 h122 (inT_of (by omega))] <;> rfl)) rfl (by rfl) ih94
            · show zJW X 136 [(13, zI (c + (zcol (i94 : Int)))), (12, zI (r + (zrow (i94 : Int)))), (11, zI (i94 : Int)), (10, zI (zbz (ouB t r c s i94))), (9, zI (wrT t r c s)), (8, zI (mtE (mkZ s) 4)), (7, zI (arT t r c)), (6, zI (mkZ s)), (0, zR 27), (1, zR 38), (2, zR 40), (3, zI r), (4, zI c), (5, zI s)] [] M
              refine z_ilw (pc := 136) hc 1 rfl dL_needs_136 ?_
              refine z_ilt (pc := 138) (tgt := 162) hc (by omega) (by decide) dL_needs_138 (fun h138 => ?_) (fun h138 => ?_)
              · show zJW X 162 [(13, zI (c + (zcol (i94 : Int)))), (12, zI (r + (zrow (i94 : Int)))), (11, zI (i94 : Int)), (10, zI (zbz (ouB t r c s i94))), (9, zI (wrT t r c s)), (8, zI (mtE (mkZ s) 4)), (7, zI (arT t r c)), (6, zI (mkZ s)), (0, zR 27), (1, zR 38), (2, zR 40), (3, zI r), (4, zI c), (5, zI s)] [] M
                refine z_iconst (pc := 162) hc 1 dL_needs_162 ?_
                refine z_goto (pc := 163) (tgt := 167) hc (by decide) dL_needs_163 ?_
                refine z_isw (pc := 167) (lv' := [(10, zI 1), (13, zI (c + (zcol (i94 : Int)))), (12, zI (r + (zrow (i94 : Int)))), (11, zI (i94 : Int)), (9, zI (wrT t r c s)), (8, zI (mtE (mkZ s) 4)), (7, zI (arT t r c)), (6, zI (mkZ s)), (0, zR 27), (1, zR 38), (2, zR 40), (3, zI r), (4, zI c), (5, zI s)]) hc rfl (Nat.le_of_ble_eq_true rfl) dL_needs_167 ?_
                refine z_iinc (pc := 169) (lv' := [(11, zI ((i94 : Int) + 1)), (10, zI 1), (13, zI (c + (zcol (i94 : Int)))), (12, zI (r + (zrow (i94 : Int)))), (9, zI (wrT t r c s)), (8, zI (mtE (mkZ s) 4)), (7, zI (arT t r c)), (6, zI (mkZ s)), (0, zR 27), (1, zR 38), (2, zR 40), (3, zI r), (4, zI c), (5, zI s)]) hc 3 rfl rfl (Nat.le_of_ble_eq_true rfl) dL_needs_169 ?_
                refine z_goto (pc := 172) (tgt := 94) hc (by decide) dL_needs_172 ?_
                refine zJW_sub (lv' := [(11, zI ((i94 : Int) + 1)), (10, zI 1), (9, zI (wrT t r c s)), (8, zI (mtE (mkZ s) 4)), (7, zI (arT t r c)), (6, zI (mkZ s)), (0, zR 27), (1, zR 38), (2, zR 40), (3, zI r), (4, zI c), (5, zI s)]) [0, 1, 4, 5, 6, 7, 8, 9, 10, 11, 12, 13] rfl ?_
                exact zJW_eq (by first | (rw [p4_ouK h122] <;> rfl) | (rw [p4_ouT h133 (inT_f (by omega))] <;> rfl) | (rw [p4_ouF1 h122 h133] <;> rfl) | (rw [p4_ouF2 h122 (inT_of (by omega))] <;> rfl)) rfl (by rfl) ih94
              · show zJW X 141 [(13, zI (c + (zcol (i94 : Int)))), (12, zI (r + (zrow (i94 : Int)))), (11, zI (i94 : Int)), (10, zI (zbz (ouB t r c s i94))), (9, zI (wrT t r c s)), (8, zI (mtE (mkZ s) 4)), (7, zI (arT t r c)), (6, zI (mkZ s)), (0, zR 27), (1, zR 38), (2, zR 40), (3, zI r), (4, zI c), (5, zI s)] [] M
                refine z_ilw (pc := 141) hc 1 rfl dL_needs_141 ?_
                refine z_ald (pc := 143) hc 10 rfl dL_needs_143 ?_
                refine z_iconst (pc := 144) hc 0 dL_needs_144 ?_
                refine z_iald (pc := 145) hc (by decide) rfl rfl (by decide) (by omega) dL_needs_145 ?_
                refine z_cge (pc := 146) (tgt := 162) hc (by omega) (by decide) dL_needs_146 (fun h146 => ?_) (fun h146 => ?_)
                · show zJW X 162 [(13, zI (c + (zcol (i94 : Int)))), (12, zI (r + (zrow (i94 : Int)))), (11, zI (i94 : Int)), (10, zI (zbz (ouB t r c s i94))), (9, zI (wrT t r c s)), (8, zI (mtE (mkZ s) 4)), (7, zI (arT t r c)), (6, zI (mkZ s)), (0, zR 27), (1, zR 38), (2, zR 40), (3, zI r), (4, zI c), (5, zI s)] [] M
                  refine z_iconst (pc := 162) hc 1 dL_needs_162 ?_
                  refine z_goto (pc := 163) (tgt := 167) hc (by decide) dL_needs_163 ?_
                  refine z_isw (pc := 167) (lv' := [(10, zI 1), (13, zI (c + (zcol (i94 : Int)))), (12, zI (r + (zrow (i94 : Int)))), (11, zI (i94 : Int)), (9, zI (wrT t r c s)), (8, zI (mtE (mkZ s) 4)), (7, zI (arT t r c)), (6, zI (mkZ s)), (0, zR 27), (1, zR 38), (2, zR 40), (3, zI r), (4, zI c), (5, zI s)]) hc rfl (Nat.le_of_ble_eq_true rfl) dL_needs_167 ?_
                  refine z_iinc (pc := 169) (lv' := [(11, zI ((i94 : Int) + 1)), (10, zI 1), (13, zI (c + (zcol (i94 : Int)))), (12, zI (r + (zrow (i94 : Int)))), (9, zI (wrT t r c s)), (8, zI (mtE (mkZ s) 4)), (7, zI (arT t r c)), (6, zI (mkZ s)), (0, zR 27), (1, zR 38), (2, zR 40), (3, zI r), (4, zI c), (5, zI s)]) hc 3 rfl rfl (Nat.le_of_ble_eq_true rfl) dL_needs_169 ?_
                  refine z_goto (pc := 172) (tgt := 94) hc (by decide) dL_needs_172 ?_
                  refine zJW_sub (lv' := [(11, zI ((i94 : Int) + 1)), (10, zI 1), (9, zI (wrT t r c s)), (8, zI (mtE (mkZ s) 4)), (7, zI (arT t r c)), (6, zI (mkZ s)), (0, zR 27), (1, zR 38), (2, zR 40), (3, zI r), (4, zI c), (5, zI s)]) [0, 1, 4, 5, 6, 7, 8, 9, 10, 11, 12, 13] rfl ?_
                  exact zJW_eq (by first | (rw [p4_ouK h122] <;> rfl) | (rw [p4_ouT h133 (inT_f (by omega))] <;> rfl) | (rw [p4_ouF1 h122 h133] <;> rfl) | (rw [p4_ouF2 h122 (inT_of (by omega))] <;> rfl)) rfl (by rfl) ih94
                · show zJW X 149 [(13, zI (c + (zcol (i94 : Int)))), (12, zI (r + (zrow (i94 : Int)))), (11, zI (i94 : Int)), (10, zI (zbz (ouB t r c s i94))), (9, zI (wrT t r c s)), (8, zI (mtE (mkZ s) 4)), (7, zI (arT t r c)), (6, zI (mkZ s)), (0, zR 27), (1, zR 38), (2, zR 40), (3, zI r), (4, zI c), (5, zI s)] [] M
                  refine z_ilw (pc := 149) hc 0 rfl dL_needs_149 ?_
                  refine z_ilt (pc := 151) (tgt := 162) hc (by omega) (by decide) dL_needs_151 (fun h151 => ?_) (fun h151 => ?_)
                  · show zJW X 162 [(13, zI (c + (zcol (i94 : Int)))), (12, zI (r + (zrow (i94 : Int)))), (11, zI (i94 : Int)), (10, zI (zbz (ouB t r c s i94))), (9, zI (wrT t r c s)), (8, zI (mtE (mkZ s) 4)), (7, zI (arT t r c)), (6, zI (mkZ s)), (0, zR 27), (1, zR 38), (2, zR 40), (3, zI r), (4, zI c), (5, zI s)] [] M
                    refine z_iconst (pc := 162) hc 1 dL_needs_162 ?_
                    refine z_goto (pc := 163) (tgt := 167) hc (by decide) dL_needs_163 ?_
                    refine z_isw (pc := 167) (lv' := [(10, zI 1), (13, zI (c + (zcol (i94 : Int)))), (12, zI (r + (zrow (i94 : Int)))), (11, zI (i94 : Int)), (9, zI (wrT t r c s)), (8, zI (mtE (mkZ s) 4)), (7, zI (arT t r c)), (6, zI (mkZ s)), (0, zR 27), (1, zR 38), (2, zR 40), (3, zI r), (4, zI c), (5, zI s)]) hc rfl (Nat.le_of_ble_eq_true rfl) dL_needs_167 ?_
                    refine z_iinc (pc := 169) (lv' := [(11, zI ((i94 : Int) + 1)), (10, zI 1), (13, zI (c + (zcol (i94 : Int)))), (12, zI (r + (zrow (i94 : Int)))), (9, zI (wrT t r c s)), (8, zI (mtE (mkZ s) 4)), (7, zI (arT t r c)), (6, zI (mkZ s)), (0, zR 27), (1, zR 38), (2, zR 40), (3, zI r), (4, zI c), (5, zI s)]) hc 3 rfl rfl (Nat.le_of_ble_eq_true rfl) dL_needs_169 ?_
                    refine z_goto (pc := 172) (tgt := 94) hc (by decide) dL_needs_172 ?_
                    refine zJW_sub (lv' := [(11, zI ((i94 : Int) + 1)), (10, zI 1), (9, zI (wrT t r c s)), (8, zI (mtE (mkZ s) 4)), (7, zI (arT t r c)), (6, zI (mkZ s)), (0, zR 27), (1, zR 38), (2, zR 40), (3, zI r), (4, zI c), (5, zI s)]) [0, 1, 4, 5, 6, 7, 8, 9, 10, 11, 12, 13] rfl ?_
                    exact zJW_eq (by first | (rw [p4_ouK h122] <;> rfl) | (rw [p4_ouT h133 (inT_f (by omega))] <;> rfl) | (rw [p4_ouF1 h122 h133] <;> rfl) | (rw [p4_ouF2 h122 (inT_of (by omega))] <;> rfl)) rfl (by rfl) ih94
                  · show zJW X 154 [(13, zI (c + (zcol (i94 : Int)))), (12, zI (r + (zrow (i94 : Int)))), (11, zI (i94 : Int)), (10, zI (zbz (ouB t r c s i94))), (9, zI (wrT t r c s)), (8, zI (mtE (mkZ s) 4)), (7, zI (arT t r c)), (6, zI (mkZ s)), (0, zR 27), (1, zR 38), (2, zR 40), (3, zI r), (4, zI c), (5, zI s)] [] M
                    refine z_ilw (pc := 154) hc 0 rfl dL_needs_154 ?_
                    refine z_ald (pc := 156) hc 10 rfl dL_needs_156 ?_
                    refine z_iconst (pc := 157) hc 1 dL_needs_157 ?_
                    refine z_iald (pc := 158) hc (by decide) rfl rfl (by decide) (by omega) dL_needs_158 ?_
                    refine z_clt (pc := 159) (tgt := 166) hc (by omega) (by decide) dL_needs_159 (fun h159 => ?_) (fun h159 => ?_)
                    · show zJW X 166 [(13, zI (c + (zcol (i94 : Int)))), (12, zI (r + (zrow (i94 : Int)))), (11, zI (i94 : Int)), (10, zI (zbz (ouB t r c s i94))), (9, zI (wrT t r c s)), (8, zI (mtE (mkZ s) 4)), (7, zI (arT t r c)), (6, zI (mkZ s)), (0, zR 27), (1, zR 38), (2, zR 40), (3, zI r), (4, zI c), (5, zI s)] [] M
                      refine z_iconst (pc := 166) hc 0 dL_needs_166 ?_
                      refine z_isw (pc := 167) (lv' := [(10, zI 0), (13, zI (c + (zcol (i94 : Int)))), (12, zI (r + (zrow (i94 : Int)))), (11, zI (i94 : Int)), (9, zI (wrT t r c s)), (8, zI (mtE (mkZ s) 4)), (7, zI (arT t r c)), (6, zI (mkZ s)), (0, zR 27), (1, zR 38), (2, zR 40), (3, zI r), (4, zI c), (5, zI s)]) hc rfl (Nat.le_of_ble_eq_true rfl) dL_needs_167 ?_
                      refine z_iinc (pc := 169) (lv' := [(11, zI ((i94 : Int) + 1)), (10, zI 0), (13, zI (c + (zcol (i94 : Int)))), (12, zI (r + (zrow (i94 : Int)))), (9, zI (wrT t r c s)), (8, zI (mtE (mkZ s) 4)), (7, zI (arT t r c)), (6, zI (mkZ s)), (0, zR 27), (1, zR 38), (2, zR 40), (3, zI r), (4, zI c), (5, zI s)]) hc 3 rfl rfl (Nat.le_of_ble_eq_true rfl) dL_needs_169 ?_
                      refine z_goto (pc := 172) (tgt := 94) hc (by decide) dL_needs_172 ?_
                      refine zJW_sub (lv' := [(11, zI ((i94 : Int) + 1)), (10, zI 0), (9, zI (wrT t r c s)), (8, zI (mtE (mkZ s) 4)), (7, zI (arT t r c)), (6, zI (mkZ s)), (0, zR 27), (1, zR 38), (2, zR 40), (3, zI r), (4, zI c), (5, zI s)]) [0, 1, 4, 5, 6, 7, 8, 9, 10, 11, 12, 13] rfl ?_
                      exact zJW_eq (by first | (rw [p4_ouK h122] <;> rfl) | (rw [p4_ouT h133 (inT_f (by omega))] <;> rfl) | (rw [p4_ouF1 h122 h133] <;> rfl) | (rw [p4_ouF2 h122 (inT_of (by omega))] <;> rfl)) rfl (by rfl) ih94
                    · show zJW X 162 [(13, zI (c + (zcol (i94 : Int)))), (12, zI (r + (zrow (i94 : Int)))), (11, zI (i94 : Int)), (10, zI (zbz (ouB t r c s i94))), (9, zI (wrT t r c s)), (8, zI (mtE (mkZ s) 4)), (7, zI (arT t r c)), (6, zI (mkZ s)), (0, zR 27), (1, zR 38), (2, zR 40), (3, zI r), (4, zI c), (5, zI s)] [] M
                      refine z_iconst (pc := 162) hc 1 dL_needs_162 ?_
                      refine z_goto (pc := 163) (tgt := 167) hc (by decide) dL_needs_163 ?_
                      refine z_isw (pc := 167) (lv' := [(10, zI 1), (13, zI (c + (zcol (i94 : Int)))), (12, zI (r + (zrow (i94 : Int)))), (11, zI (i94 : Int)), (9, zI (wrT t r c s)), (8, zI (mtE (mkZ s) 4)), (7, zI (arT t r c)), (6, zI (mkZ s)), (0, zR 27), (1, zR 38), (2, zR 40), (3, zI r), (4, zI c), (5, zI s)]) hc rfl (Nat.le_of_ble_eq_true rfl) dL_needs_167 ?_
                      refine z_iinc (pc := 169) (lv' := [(11, zI ((i94 : Int) + 1)), (10, zI 1), (13, zI (c + (zcol (i94 : Int)))), (12, zI (r + (zrow (i94 : Int)))), (9, zI (wrT t r c s)), (8, zI (mtE (mkZ s) 4)), (7, zI (arT t r c)), (6, zI (mkZ s)), (0, zR 27), (1, zR 38), (2, zR 40), (3, zI r), (4, zI c), (5, zI s)]) hc 3 rfl rfl (Nat.le_of_ble_eq_true rfl) dL_needs_169 ?_
                      refine z_goto (pc := 172) (tgt := 94) hc (by decide) dL_needs_172 ?_
                      refine zJW_sub (lv' := [(11, zI ((i94 : Int) + 1)), (10, zI 1), (9, zI (wrT t r c s)), (8, zI (mtE (mkZ s) 4)), (7, zI (arT t r c)), (6, zI (mkZ s)), (0, zR 27), (1, zR 38), (2, zR 40), (3, zI r), (4, zI c), (5, zI s)]) [0, 1, 4, 5, 6, 7, 8, 9, 10, 11, 12, 13] rfl ?_
                      exact zJW_eq (by first | (rw [p4_ouK h122] <;> rfl) | (rw [p4_ouT h133 (inT_f (by omega))] <;> rfl) | (rw [p4_ouF1 h122 h133] <;> rfl) | (rw [p4_ouF2 h122 (inT_of (by omega))] <;> rfl)) rfl (by rfl) ih94
    · exfalso; omega
  · show zJW X 23 [(9, zI (2 * (i23 : Int) + 1)), (8, zI (mtE (mkZ s) i23)), (7, zI (arT t r c)), (6, zI (mkZ s)), (0, zR 27), (1, zR 38), (2, zR 40), (3, zI r), (4, zI c), (5, zI s)] [] M
    have hz1 := zan_bd (zsr (mkZ s) (2 * (i23 : Int) + 1 - 1)) (m := 1) (by omega)
    have hz2 := zan_bd (zsr (mkZ s) ((2 * (i23 : Int) + 1 + 1) % 8)) (m := 1) (by omega)
    refine z_ilw (pc := 23) hc 0 rfl dL_needs_23 ?_
    refine z_bipush (pc := 25) hc 8 (by decide) dL_needs_25 ?_
    refine z_cge (pc := 27) (tgt := 78) hc (by omega) (by decide) dL_needs_27 (fun h27 => ?_) (fun h27 => ?_)
    · exfalso; omega
    · show zJW X 30 [(9, zI (2 * (i23 : Int) + 1)), (8, zI (mtE (mkZ s) i23)), (7, zI (arT t r c)), (6, zI (mkZ s)), (0, zR 27), (1, zR 38), (2, zR 40), (3, zI r), (4, zI c), (5, zI s)] [] M
      refine z_ilw (pc := 30) hc 1 rfl dL_needs_30 ?_
      refine z_ilw (pc := 32) hc 3 rfl dL_needs_32 ?_
      refine z_ilw (pc := 34) hc 0 rfl dL_needs_34 ?_
      refine z_iconst (pc := 36) hc 1 dL_needs_36 ?_
      refine z_isub (pc := 37) hc dL_needs_37 ?_
      refine z_ishr (pc := 38) hc dL_needs_38 ?_
      refine z_iconst (pc := 39) hc 1 dL_needs_39 ?_
      refine z_iand (pc := 40) hc dL_needs_40 ?_
      refine z_iconst (pc := 41) hc 1 dL_needs_41 ?_
      refine z_cne (pc := 42) (tgt := 68) hc (by omega) (by decide) dL_needs_42 (fun h42 => ?_) (fun h42 => ?_)
      · show zJW X 68 [(9, zI (2 * (i23 : Int) + 1)), (8, zI (mtE (mkZ s) i23)), (7, zI (arT t r c)), (6, zI (mkZ s)), (0, zR 27), (1, zR 38), (2, zR 40), (3, zI r), (4, zI c), (5, zI s)] [zI (mtE (mkZ s) i23)] M
        refine z_iconst (pc := 68) hc 0 dL_needs_68 ?_
        refine z_ior (pc := 69) hc dL_needs_69 ?_
        refine z_isw (pc := 70) (lv' := [(8, zI (zor (mtE (mkZ s) i23) 0)), (9, zI (2 * (i23 : Int) + 1)), (7, zI (arT t r c)), (6, zI (mkZ s)), (0, zR 27), (1, zR 38), (2, zR 40), (3, zI r), (4, zI c), (5, zI s)]) hc rfl (Nat.le_of_ble_eq_true rfl) dL_needs_70 ?_
        refine z_iinc (pc := 72) (lv' := [(9, zI ((2 * (i23 : Int) + 1) + 2)), (8, zI (zor (mtE (mkZ s) i23) 0)), (7, zI (arT t r c)), (6, zI (mkZ s)), (0, zR 27), (1, zR 38), (2, zR 40), (3, zI r), (4, zI c), (5, zI s)]) hc 1 rfl rfl (Nat.le_of_ble_eq_true rfl) dL_needs_72 ?_
        refine z_goto (pc := 75) (tgt := 23) hc (by decide) dL_needs_75 ?_
        exact zJW_eq (by rw [show (2 * (i23 : Int) + 1 + 2) = 2 * ((i23 + 1 : Nat) : Int) + 1 by omega, mtE_s]; first | (rw [if_pos ⟨h42, h58⟩] <;> rfl) | (rw [if_neg (fun h => h58 h.2)] <;> rfl) | (rw [if_neg (fun h => h42 h.1)] <;> rfl)) rfl (by rfl) ih23
      · show zJW X 45 [(9, zI (2 * (i23 : Int) + 1)), (8, zI (mtE (mkZ s) i23)), (7, zI (arT t r c)), (6, zI (mkZ s)), (0, zR 27), (1, zR 38), (2, zR 40), (3, zI r), (4, zI c), (5, zI s)] [zI (mtE (mkZ s) i23)] M
        refine z_ilw (pc := 45) hc 3 rfl dL_needs_45 ?_
        refine z_ilw (pc := 47) hc 0 rfl dL_needs_47 ?_
        refine z_iconst (pc := 49) hc 1 dL_needs_49 ?_
        refine z_iadd (pc := 50) hc dL_needs_50 ?_
        refine z_bipush (pc := 51) hc 8 (by decide) dL_needs_51 ?_
        refine z_irem (pc := 53) hc (by omega) dL_needs_53 ?_
        refine z_ishr (pc := 54) hc dL_needs_54 ?_
        refine z_iconst (pc := 55) hc 1 dL_needs_55 ?_
        refine z_iand (pc := 56) hc dL_needs_56 ?_
        refine z_iconst (pc := 57) hc 1 dL_needs_57 ?_
        refine z_cne (pc := 58) (tgt := 68) hc (by omega) (by decide) dL_needs_58 (fun h58 => ?_) (fun h58 => ?_)
        · show zJW X 68 [(9, zI (2 * (i23 : Int) + 1)), (8, zI (mtE (mkZ s) i23)), (7, zI (arT t r c)), (6, zI (mkZ s)), (0, zR 27), (1, zR 38), (2, zR 40), (3, zI r), (4, zI c), (5, zI s)] [zI (mtE (mkZ s) i23)] M
          refine z_iconst (pc := 68) hc 0 dL_needs_68 ?_
          refine z_ior (pc := 69) hc dL_needs_69 ?_
          refine z_isw (pc := 70) (lv' := [(8, zI (zor (mtE (mkZ s) i23) 0)), (9, zI (2 * (i23 : Int) + 1)), (7, zI (arT t r c)), (6, zI (mkZ s)), (0, zR 27), (1, zR 38), (2, zR 40), (3, zI r), (4, zI c), (5, zI s)]) hc rfl (Nat.le_of_ble_eq_true rfl) dL_needs_70 ?_
          refine z_iinc (pc := 72) (lv' := [(9, zI ((2 * (i23 : Int) + 1) + 2)), (8, zI (zor (mtE (mkZ s) i23) 0)), (7, zI (arT t r c)), (6, zI (mkZ s)), (0, zR 27), (1, zR 38), (2, zR 40), (3, zI r), (4, zI c), (5, zI s)]) hc 1 rfl rfl (Nat.le_of_ble_eq_true rfl) dL_needs_72 ?_
          refine z_goto (pc := 75) (tgt := 23) hc (by decide) dL_needs_75 ?_
          exact zJW_eq (by rw [show (2 * (i23 : Int) + 1 + 2) = 2 * ((i23 + 1 : Nat) : Int) + 1 by omega, mtE_s]; first | (rw [if_pos ⟨h42, h58⟩] <;> rfl) | (rw [if_neg (fun h => h58 h.2)] <;> rfl) | (rw [if_neg (fun h => h42 h.1)] <;> rfl)) rfl (by rfl) ih23
        · show zJW X 61 [(9, zI (2 * (i23 : Int) + 1)), (8, zI (mtE (mkZ s) i23)), (7, zI (arT t r c)), (6, zI (mkZ s)), (0, zR 27), (1, zR 38), (2, zR 40), (3, zI r), (4, zI c), (5, zI s)] [zI (mtE (mkZ s) i23)] M
          refine z_iconst (pc := 61) hc 1 dL_needs_61 ?_
          refine z_ilw (pc := 62) hc 0 rfl dL_needs_62 ?_
          refine z_ishl (pc := 64) hc dL_needs_64 ?_
          refine z_goto (pc := 65) (tgt := 69) hc (by decide) dL_needs_65 ?_
          refine z_ior (pc := 69) hc dL_needs_69 ?_
          refine z_isw (pc := 70) (lv' := [(8, zI (zor (mtE (mkZ s) i23) (zsl 1 (2 * (i23 : Int) + 1)))), (9, zI (2 * (i23 : Int) + 1)), (7, zI (arT t r c)), (6, zI (mkZ s)), (0, zR 27), (1, zR 38), (2, zR 40), (3, zI r), (4, zI c), (5, zI s)]) hc rfl (Nat.le_of_ble_eq_true rfl) dL_needs_70 ?_
          refine z_iinc (pc := 72) (lv' := [(9, zI ((2 * (i23 : Int) + 1) + 2)), (8, zI (zor (mtE (mkZ s) i23) (zsl 1 (2 * (i23 : Int) + 1)))), (7, zI (arT t r c)), (6, zI (mkZ s)), (0, zR 27), (1, zR 38), (2, zR 40), (3, zI r), (4, zI c), (5, zI s)]) hc 1 rfl rfl (Nat.le_of_ble_eq_true rfl) dL_needs_72 ?_
          refine z_goto (pc := 75) (tgt := 23) hc (by decide) dL_needs_75 ?_
          exact zJW_eq (by rw [show (2 * (i23 : Int) + 1 + 2) = 2 * ((i23 + 1 : Nat) : Int) + 1 by omega, mtE_s]; first | (rw [if_pos ⟨h42, h58⟩] <;> rfl) | (rw [if_neg (fun h => h58 h.2)] <;> rfl) | (rw [if_neg (fun h => h42 h.1)] <;> rfl)) rfl (by rfl) ih23

