theorem zbz_e {a b : Bool} (h : zbz a = zbz b) : a = b := by revert h; cases a <;> cases b <;> decide

set_option maxRecDepth 100000 in
set_option maxHeartbeats 4000000 in
theorem law_fill_1 {X : CX} {M1 : Mem} {t : TS} (hc : zCx (KL_law 43) X) (hT : p4T (M1 40) t) (hO : TOk t) (h e r c : Int) (vb wb : Bool) (g n : Int) (i : Nat) (hib : (i : Int) ≤ tH t * tW t) (hx : tH t * tW t ≤ i → zJW X 444 [(16, zI g), (15, zI (zbz wb)), (14, zI n), (12, zR 42), (11, zR 41), (10, zI (zbz vb)), (9, zI c), (8, zI r), (6, zI h), (5, zI e), (4, zR 40), (3, zR 39), (2, zR 38), (1, zR 27), (0, zR 60)] [] M1) (hs : (i : Int) < tH t * tW t → zJW X 305 [(21, zI 0), (20, zI (zbz false)), (19, zI ((i : Int) % tW t)), (18, zI ((i : Int) / tW t)), (17, zI (i : Int)), (16, zI g), (15, zI (zbz wb)), (14, zI n), (12, zR 42), (11, zR 41), (10, zI (zbz vb)), (9, zI c), (8, zI r), (6, zI h), (5, zI e), (4, zR 40), (3, zR 39), (2, zR 38), (1, zR 27), (0, zR 60)] [] M1) : zJW X 267 [(17, zI (i : Int)), (16, zI g), (15, zI (zbz wb)), (14, zI n), (12, zR 42), (11, zR 41), (10, zI (zbz vb)), (9, zI c), (8, zI r), (6, zI h), (5, zI e), (4, zR 40), (3, zR 39), (2, zR 38), (1, zR 27), (0, zR 60)] [] M1 := by
  obtain ⟨hO1, hO2, hO3, hO4, hO5⟩ := id hO
  have e40_0 : M1 40 0 = tH t := hT.1
  have e40_1 : M1 40 1 = tW t := hT.2.1
  have zwb := zbz_bd wb
  have hw9 := zhw (h := tH t) (w := tW t) (by omega) (by omega) (by omega) (by omega)
  refine z_ilw (pc := 267) hc 0 rfl dL_law_267 ?_
  refine z_alw (pc := 269) hc 11 rfl dL_law_269 ?_
  refine z_iconst (pc := 271) hc 0 dL_law_271 ?_
  refine z_iald (pc := 272) hc (by decide) rfl rfl (by decide) (by omega) dL_law_272 ?_
  refine zJW_eq (st' := [zI (tH t), zI (i : Int)]) rfl (by rw [e40_0]) rfl ?_
  refine z_alw (pc := 273) hc 11 rfl dL_law_273 ?_
  refine z_iconst (pc := 275) hc 1 dL_law_275 ?_
  refine z_iald (pc := 276) hc (by decide) rfl rfl (by decide) (by omega) dL_law_276 ?_
  refine zJW_eq (st' := [zI (tW t), zI (tH t), zI (i : Int)]) rfl (by rw [e40_1]) rfl ?_
  refine z_imul (pc := 277) hc dL_law_277 ?_
  refine z_cge (pc := 278) (tgt := 444) hc (by omega) (by decide) dL_law_278 (fun h278 => ?_) (fun h278 => ?_)
  · show zJW X 444 [(17, zI (i : Int)), (16, zI g), (15, zI (zbz wb)), (14, zI n), (12, zR 42), (11, zR 41), (10, zI (zbz vb)), (9, zI c), (8, zI r), (6, zI h), (5, zI e), (4, zR 40), (3, zR 39), (2, zR 38), (1, zR 27), (0, zR 60)] [] M1
    refine zJW_sub (lv' := [(16, zI g), (15, zI (zbz wb)), (14, zI n), (12, zR 42), (11, zR 41), (10, zI (zbz vb)), (9, zI c), (8, zI r), (6, zI h), (5, zI e), (4, zR 40), (3, zR 39), (2, zR 38), (1, zR 27), (0, zR 60)]) [1, 2, 3, 4, 5, 6, 7, 8, 9, 10, 11, 12, 13, 14, 15] rfl ?_
    exact hx h278
  · show zJW X 281 [(17, zI (i : Int)), (16, zI g), (15, zI (zbz wb)), (14, zI n), (12, zR 42), (11, zR 41), (10, zI (zbz vb)), (9, zI c), (8, zI r), (6, zI h), (5, zI e), (4, zR 40), (3, zR 39), (2, zR 38), (1, zR 27), (0, zR 60)] [] M1
    refine z_ilw (pc := 281) hc 0 rfl dL_law_281 ?_
    refine z_alw (pc := 283) hc 11 rfl dL_law_283 ?_
    refine z_iconst (pc := 285) hc 1 dL_law_285 ?_
    refine z_iald (pc := 286) hc (by decide) rfl rfl (by decide) (by omega) dL_law_286 ?_
    refine zJW_eq (st' := [zI (tW t), zI (i : Int)]) rfl (by rw [e40_1]) rfl ?_
    refine z_idiv (pc := 287) hc (by omega) dL_law_287 ?_
    refine z_isw (pc := 288) (lv' := [(18, zI ((i : Int) / (tW t))), (17, zI (i : Int)), (16, zI g), (15, zI (zbz wb)), (14, zI n), (12, zR 42), (11, zR 41), (10, zI (zbz vb)), (9, zI c), (8, zI r), (6, zI h), (5, zI e), (4, zR 40), (3, zR 39), (2, zR 38), (1, zR 27), (0, zR 60)]) hc rfl (Nat.le_of_ble_eq_true rfl) dL_law_288 ?_
    refine z_ilw (pc := 290) hc 1 rfl dL_law_290 ?_
    refine z_alw (pc := 292) hc 12 rfl dL_law_292 ?_
    refine z_iconst (pc := 294) hc 1 dL_law_294 ?_
    refine z_iald (pc := 295) hc (by decide) rfl rfl (by decide) (by omega) dL_law_295 ?_
    refine zJW_eq (st' := [zI (tW t), zI (i : Int)]) rfl (by rw [e40_1]) rfl ?_
    refine z_irem (pc := 296) hc (by omega) dL_law_296 ?_
    refine z_isw (pc := 297) (lv' := [(19, zI ((i : Int) % (tW t))), (18, zI ((i : Int) / (tW t))), (17, zI (i : Int)), (16, zI g), (15, zI (zbz wb)), (14, zI n), (12, zR 42), (11, zR 41), (10, zI (zbz vb)), (9, zI c), (8, zI r), (6, zI h), (5, zI e), (4, zR 40), (3, zR 39), (2, zR 38), (1, zR 27), (0, zR 60)]) hc rfl (Nat.le_of_ble_eq_true rfl) dL_law_297 ?_
    refine z_iconst (pc := 299) hc 0 dL_law_299 ?_
    refine z_isw (pc := 300) (lv' := [(20, zI 0), (19, zI ((i : Int) % (tW t))), (18, zI ((i : Int) / (tW t))), (17, zI (i : Int)), (16, zI g), (15, zI (zbz wb)), (14, zI n), (12, zR 42), (11, zR 41), (10, zI (zbz vb)), (9, zI c), (8, zI r), (6, zI h), (5, zI e), (4, zR 40), (3, zR 39), (2, zR 38), (1, zR 27), (0, zR 60)]) hc rfl (Nat.le_of_ble_eq_true rfl) dL_law_300 ?_
    refine z_iconst (pc := 302) hc 0 dL_law_302 ?_
    refine z_isw (pc := 303) (lv' := [(21, zI 0), (20, zI 0), (19, zI ((i : Int) % (tW t))), (18, zI ((i : Int) / (tW t))), (17, zI (i : Int)), (16, zI g), (15, zI (zbz wb)), (14, zI n), (12, zR 42), (11, zR 41), (10, zI (zbz vb)), (9, zI c), (8, zI r), (6, zI h), (5, zI e), (4, zR 40), (3, zR 39), (2, zR 38), (1, zR 27), (0, zR 60)]) hc rfl (Nat.le_of_ble_eq_true rfl) dL_law_303 ?_
    exact hs h278

set_option maxRecDepth 100000 in
set_option maxHeartbeats 4000000 in
theorem law_fill_2 {X : CX} {M1 : Mem} {t : TS} (hc : zCx (KL_law 43) X) {P : Int → Int → Prop} (hT : p4T (M1 40) t) (hO : TOk t) {wb : Bool} {r c : Int} (hV : TOk (flV t wb P)) (hF : p4F (M1 38) (flV t wb P)) (h41 : p4F (M1 41) t) (hi : inT t r c = true) (hwb : laT t r c = wb) (hP : flP t r c P) (h e : Int) (vb : Bool) (k g n : Int) (a b d : Int) (hab : inT t a b = true) (hd : 0 ≤ d ∧ d < 8) (bd : Bool) (hk : zJW X 305 [(21, zI (d + 2)), (20, zI (zbz (bd || flH t P a b d))), (19, zI b), (18, zI a), (17, zI k), (16, zI g), (15, zI (zbz wb)), (14, zI n), (12, zR 42), (11, zR 41), (10, zI (zbz vb)), (9, zI c), (8, zI r), (6, zI h), (5, zI e), (4, zR 40), (3, zR 39), (2, zR 38), (1, zR 27), (0, zR 60)] [] M1) : zJW X 305 [(21, zI d), (20, zI (zbz bd)), (19, zI b), (18, zI a), (17, zI k), (16, zI g), (15, zI (zbz wb)), (14, zI n), (12, zR 42), (11, zR 41), (10, zI (zbz vb)), (9, zI c), (8, zI r), (6, zI h), (5, zI e), (4, zR 40), (3, zR 39), (2, zR 38), (1, zR 27), (0, zR 60)] [] M1 := by
  obtain ⟨hO1, hO2, hO3, hO4, hO5⟩ := id hO
  have e40_0 : M1 40 0 = tH t := hT.1
  have e40_1 : M1 40 1 = tW t := hT.2.1
  have zwb := zbz_bd wb
  have hw9 := zhw (h := tH t) (w := tW t) (by omega) (by omega) (by omega) (by omega)
  have zr := zrow_bd d
  have zc := zcol_bd d
  have hib := inT_bd hab
  have hz0 := fl_h0 (t := t) (P := P) (a := a) (b := b) (d := d)
  have hzz : 0 ≤ a + zrow d → a + zrow d < tH t → 0 ≤ b + zcol d → b + zcol d < tW t → _ := fun q1 q2 q3 q4 => fl_h hO hi hwb hP (a := a) (b := b) (d := d) (inT_of ⟨q1, q2, q3, q4⟩)
  refine z_ilw (pc := 305) hc 0 rfl dL_law_305 ?_
  refine z_bipush (pc := 307) hc 8 (by decide) dL_law_307 ?_
  refine z_cge (pc := 309) (tgt := 398) hc (by omega) (by decide) dL_law_309 (fun h309 => ?_) (fun h309 => ?_)
  · exfalso; omega
  · show zJW X 312 [(21, zI d), (20, zI (zbz bd)), (19, zI b), (18, zI a), (17, zI k), (16, zI g), (15, zI (zbz wb)), (14, zI n), (12, zR 42), (11, zR 41), (10, zI (zbz vb)), (9, zI c), (8, zI r), (6, zI h), (5, zI e), (4, zR 40), (3, zR 39), (2, zR 38), (1, zR 27), (0, zR 60)] [] M1
    refine z_ilw (pc := 312) hc 3 rfl dL_law_312 ?_
    refine z_ilw (pc := 314) hc 0 rfl dL_law_314 ?_
    refine kc_L_10 (pc := 316) hc rfl (zfitG (Nat.le_of_ble_eq_true rfl) (fun i hi => by first | cases hi | (simp only [zflX, zfl0, Bool.or_eq_true, decide_eq_true_eq] at hi ⊢; omega)) (fun h => by first | rfl | cases h)) (Nat.le_of_ble_eq_true rfl) (ct_L_side M1 d hd) dL_law_316 ?_
    refine z_iadd (pc := 319) hc dL_law_319 ?_
    refine z_isw (pc := 320) (lv' := [(22, zI (a + (zrow d))), (21, zI d), (20, zI (zbz bd)), (19, zI b), (18, zI a), (17, zI k), (16, zI g), (15, zI (zbz wb)), (14, zI n), (12, zR 42), (11, zR 41), (10, zI (zbz vb)), (9, zI c), (8, zI r), (6, zI h), (5, zI e), (4, zR 40), (3, zR 39), (2, zR 38), (1, zR 27), (0, zR 60)]) hc rfl (Nat.le_of_ble_eq_true rfl) dL_law_320 ?_
    refine z_ilw (pc := 322) hc 3 rfl dL_law_322 ?_
    refine z_ilw (pc := 324) hc 1 rfl dL_law_324 ?_
    refine kc_L_16 (pc := 326) hc rfl (zfitG (Nat.le_of_ble_eq_true rfl) (fun i hi => by first | cases hi | (simp only [zflX, zfl0, Bool.or_eq_true, decide_eq_true_eq] at hi ⊢; omega)) (fun h => by first | rfl | cases h)) (Nat.le_of_ble_eq_true rfl) (ct_L_across M1 d hd) dL_law_326 ?_
    refine z_iadd (pc := 329) hc dL_law_329 ?_
    refine z_isw (pc := 330) (lv' := [(23, zI (b + (zcol d))), (22, zI (a + (zrow d))), (21, zI d), (20, zI (zbz bd)), (19, zI b), (18, zI a), (17, zI k), (16, zI g), (15, zI (zbz wb)), (14, zI n), (12, zR 42), (11, zR 41), (10, zI (zbz vb)), (9, zI c), (8, zI r), (6, zI h), (5, zI e), (4, zR 40), (3, zR 39), (2, zR 38), (1, zR 27), (0, zR 60)]) hc rfl (Nat.le_of_ble_eq_true rfl) dL_law_330 ?_
    refine z_ilw (pc := 332) hc 3 rfl dL_law_332 ?_
    have hJ390 : zJW X 390 [(23, zI (b + (zcol d))), (22, zI (a + (zrow d))), (21, zI d), (20, zI (zbz bd)), (19, zI b), (18, zI a), (17, zI k), (16, zI g), (15, zI (zbz wb)), (14, zI n), (12, zR 42), (11, zR 41), (10, zI (zbz vb)), (9, zI c), (8, zI r), (6, zI h), (5, zI e), (4, zR 40), (3, zR 39), (2, zR 38), (1, zR 27), (0, zR 60)] [zI (zbz (bd || flH t P a b d))] M1 := by
      refine z_isw (pc := 390) (lv' := [(20, zI (zbz (bd || flH t P a b d))), (23, zI (b + (zcol d))), (22, zI (a + (zrow d))), (21, zI d), (19, zI b), (18, zI a), (17, zI k), (16, zI g), (15, zI (zbz wb)), (14, zI n), (12, zR 42), (11, zR 41), (10, zI (zbz vb)), (9, zI c), (8, zI r), (6, zI h), (5, zI e), (4, zR 40), (3, zR 39), (2, zR 38), (1, zR 27), (0, zR 60)]) hc rfl (Nat.le_of_ble_eq_true rfl) dL_law_390 ?_
      refine z_iinc (pc := 392) (lv' := [(21, zI (d + 2)), (20, zI (zbz (bd || flH t P a b d))), (23, zI (b + (zcol d))), (22, zI (a + (zrow d))), (19, zI b), (18, zI a), (17, zI k), (16, zI g), (15, zI (zbz wb)), (14, zI n), (12, zR 42), (11, zR 41), (10, zI (zbz vb)), (9, zI c), (8, zI r), (6, zI h), (5, zI e), (4, zR 40), (3, zR 39), (2, zR 38), (1, zR 27), (0, zR 60)]) hc 3 rfl rfl (Nat.le_of_ble_eq_true rfl) dL_law_392 ?_
      refine z_goto (pc := 395) (tgt := 305) hc (by decide) dL_law_395 ?_
      refine zJW_sub (lv' := [(21, zI (d + 2)), (20, zI (zbz (bd || flH t P a b d))), (19, zI b), (18, zI a), (17, zI k), (16, zI g), (15, zI (zbz wb)), (14, zI n), (12, zR 42), (11, zR 41), (10, zI (zbz vb)), (9, zI c), (8, zI r), (6, zI h), (5, zI e), (4, zR 40), (3, zR 39), (2, zR 38), (1, zR 27), (0, zR 60)]) [0, 1, 4, 5, 6, 7, 8, 9, 10, 11, 12, 13, 14, 15, 16, 17, 18, 19, 20, 21] rfl ?_
      exact hk
    refine z_bne (pc := 334) (tgt := 385) hc (by decide) dL_law_334 (fun h334 => ?_) (fun h334 => ?_)
    · show zJW X 385 [(23, zI (b + (zcol d))), (22, zI (a + (zrow d))), (21, zI d), (20, zI (zbz bd)), (19, zI b), (18, zI a), (17, zI k), (16, zI g), (15, zI (zbz wb)), (14, zI n), (12, zR 42), (11, zR 41), (10, zI (zbz vb)), (9, zI c), (8, zI r), (6, zI h), (5, zI e), (4, zR 40), (3, zR 39), (2, zR 38), (1, zR 27), (0, zR 60)] [] M1
      refine z_iconst (pc := 385) hc 1 dL_law_385 ?_
      refine z_goto (pc := 386) (tgt := 390) hc (by decide) dL_law_386 ?_
      exact zJW_eq (by rfl) (by first | (rw [show (bd || flH t P a b d) = true from by rw [h334]; rfl]; rfl) | (rw [show (bd || flH t P a b d) = true from by rw [(hzz (by omega) (by omega) (by omega) (by omega)).2 h382, Bool.or_true]]; rfl) | (rw [show (bd || flH t P a b d) = false from by rw [h334, hz0 (by omega)]; rfl]; rfl) | (rw [show (bd || flH t P a b d) = false from by rw [h334, (hzz (by omega) (by omega) (by omega) (by omega)).1 h382]; rfl]; rfl)) (by rfl) hJ390
    · show zJW X 337 [(23, zI (b + (zcol d))), (22, zI (a + (zrow d))), (21, zI d), (20, zI (zbz bd)), (19, zI b), (18, zI a), (17, zI k), (16, zI g), (15, zI (zbz wb)), (14, zI n), (12, zR 42), (11, zR 41), (10, zI (zbz vb)), (9, zI c), (8, zI r), (6, zI h), (5, zI e), (4, zR 40), (3, zR 39), (2, zR 38), (1, zR 27), (0, zR 60)] [] M1
      refine z_ilw (pc := 337) hc 1 rfl dL_law_337 ?_
      refine z_ilt (pc := 339) (tgt := 389) hc (by omega) (by decide) dL_law_339 (fun h339 => ?_) (fun h339 => ?_)
      · show zJW X 389 [(23, zI (b + (zcol d))), (22, zI (a + (zrow d))), (21, zI d), (20, zI (zbz bd)), (19, zI b), (18, zI a), (17, zI k), (16, zI g), (15, zI (zbz wb)), (14, zI n), (12, zR 42), (11, zR 41), (10, zI (zbz vb)), (9, zI c), (8, zI r), (6, zI h), (5, zI e), (4, zR 40), (3, zR 39), (2, zR 38), (1, zR 27), (0, zR 60)] [] M1
        refine z_iconst (pc := 389) hc 0 dL_law_389 ?_
        exact zJW_eq (by rfl) (by first | (rw [show (bd || flH t P a b d) = true from by rw [h334]; rfl]; rfl) | (rw [show (bd || flH t P a b d) = true from by rw [(hzz (by omega) (by omega) (by omega) (by omega)).2 h382, Bool.or_true]]; rfl) | (rw [show (bd || flH t P a b d) = false from by rw [h334, hz0 (by omega)]; rfl]; rfl) | (rw [show (bd || flH t P a b d) = false from by rw [h334, (hzz (by omega) (by omega) (by omega) (by omega)).1 h382]; rfl]; rfl)) (by rfl) hJ390
      · show zJW X 342 [(23, zI (b + (zcol d))), (22, zI (a + (zrow d))), (21, zI d), (20, zI (zbz bd)), (19, zI b), (18, zI a), (17, zI k), (16, zI g), (15, zI (zbz wb)), (14, zI n), (12, zR 42), (11, zR 41), (10, zI (zbz vb)), (9, zI c), (8, zI r), (6, zI h), (5, zI e), (4, zR 40), (3, zR 39), (2, zR 38), (1, zR 27), (0, zR 60)] [] M1
        refine z_ilw (pc := 342) hc 1 rfl dL_law_342 ?_
        refine z_alw (pc := 344) hc 17 rfl dL_law_344 ?_
        refine z_iconst (pc := 346) hc 0 dL_law_346 ?_
        refine z_iald (pc := 347) hc (by decide) rfl rfl (by decide) (by omega) dL_law_347 ?_
        refine zJW_eq (st' := [zI (tH t), zI (a + (zrow d))]) rfl (by rw [e40_0]) rfl ?_
        refine z_cge (pc := 348) (tgt := 389) hc (by omega) (by decide) dL_law_348 (fun h348 => ?_) (fun h348 => ?_)
        · show zJW X 389 [(23, zI (b + (zcol d))), (22, zI (a + (zrow d))), (21, zI d), (20, zI (zbz bd)), (19, zI b), (18, zI a), (17, zI k), (16, zI g), (15, zI (zbz wb)), (14, zI n), (12, zR 42), (11, zR 41), (10, zI (zbz vb)), (9, zI c), (8, zI r), (6, zI h), (5, zI e), (4, zR 40), (3, zR 39), (2, zR 38), (1, zR 27), (0, zR 60)] [] M1
          refine z_iconst (pc := 389) hc 0 dL_law_389 ?_
          exact zJW_eq (by rfl) (by first | (rw [show (bd || flH t P a b d) = true from by rw [h334]; rfl]; rfl) | (rw [show (bd || flH t P a b d) = true from by rw [(hzz (by omega) (by omega) (by omega) (by omega)).2 h382, Bool.or_true]]; rfl) | (rw [show (bd || flH t P a b d) = false from by rw [h334, hz0 (by omega)]; rfl]; rfl) | (rw [show (bd || flH t P a b d) = false from by rw [h334, (hzz (by omega) (by omega) (by omega) (by omega)).1 h382]; rfl]; rfl)) (by rfl) hJ390
        · show zJW X 351 [(23, zI (b + (zcol d))), (22, zI (a + (zrow d))), (21, zI d), (20, zI (zbz bd)), (19, zI b), (18, zI a), (17, zI k), (16, zI g), (15, zI (zbz wb)), (14, zI n), (12, zR 42), (11, zR 41), (10, zI (zbz vb)), (9, zI c), (8, zI r), (6, zI h), (5, zI e), (4, zR 40), (3, zR 39), (2, zR 38), (1, zR 27), (0, zR 60)] [] M1
          refine z_ilw (pc := 351) hc 0 rfl dL_law_351 ?_
          refine z_ilt (pc := 353) (tgt := 389) hc (by omega) (by decide) dL_law_353 (fun h353 => ?_) (fun h353 => ?_)
          · show zJW X 389 [(23, zI (b + (zcol d))), (22, zI (a + (zrow d))), (21, zI d), (20, zI (zbz bd)), (19, zI b), (18, zI a), (17, zI k), (16, zI g), (15, zI (zbz wb)), (14, zI n), (12, zR 42), (11, zR 41), (10, zI (zbz vb)), (9, zI c), (8, zI r), (6, zI h), (5, zI e), (4, zR 40), (3, zR 39), (2, zR 38), (1, zR 27), (0, zR 60)] [] M1
            refine z_iconst (pc := 389) hc 0 dL_law_389 ?_
            exact zJW_eq (by rfl) (by first | (rw [show (bd || flH t P a b d) = true from by rw [h334]; rfl]; rfl) | (rw [show (bd || flH t P a b d) = true from by rw [(hzz (by omega) (by omega) (by omega) (by omega)).2 h382, Bool.or_true]]; rfl) | (rw [show (bd || flH t P a b d) = false from by rw [h334, hz0 (by omega)]; rfl]; rfl) | (rw [show (bd || flH t P a b d) = false from by rw [h334, (hzz (by omega) (by omega) (by omega) (by omega)).1 h382]; rfl]; rfl)) (by rfl) hJ390
          · show zJW X 356 [(23, zI (b + (zcol d))), (22, zI (a + (zrow d))), (21, zI d), (20, zI (zbz bd)), (19, zI b), (18, zI a), (17, zI k), (16, zI g), (15, zI (zbz wb)), (14, zI n), (12, zR 42), (11, zR 41), (10, zI (zbz vb)), (9, zI c), (8, zI r), (6, zI h), (5, zI e), (4, zR 40), (3, zR 39), (2, zR 38), (1, zR 27), (0, zR 60)] [] M1
            refine z_ilw (pc := 356) hc 0 rfl dL_law_356 ?_
            refine z_alw (pc := 358) hc 17 rfl dL_law_358 ?_
            refine z_iconst (pc := 360) hc 1 dL_law_360 ?_
            refine z_iald (pc := 361) hc (by decide) rfl rfl (by decide) (by omega) dL_law_361 ?_
            refine zJW_eq (st' := [zI (tW t), zI (b + (zcol d))]) rfl (by rw [e40_1]) rfl ?_
            refine z_cge (pc := 362) (tgt := 389) hc (by omega) (by decide) dL_law_362 (fun h362 => ?_) (fun h362 => ?_)
            · show zJW X 389 [(23, zI (b + (zcol d))), (22, zI (a + (zrow d))), (21, zI d), (20, zI (zbz bd)), (19, zI b), (18, zI a), (17, zI k), (16, zI g), (15, zI (zbz wb)), (14, zI n), (12, zR 42), (11, zR 41), (10, zI (zbz vb)), (9, zI c), (8, zI r), (6, zI h), (5, zI e), (4, zR 40), (3, zR 39), (2, zR 38), (1, zR 27), (0, zR 60)] [] M1
              refine z_iconst (pc := 389) hc 0 dL_law_389 ?_
              exact zJW_eq (by rfl) (by first | (rw [show (bd || flH t P a b d) = true from by rw [h334]; rfl]; rfl) | (rw [show (bd || flH t P a b d) = true from by rw [(hzz (by omega) (by omega) (by omega) (by omega)).2 h382, Bool.or_true]]; rfl) | (rw [show (bd || flH t P a b d) = false from by rw [h334, hz0 (by omega)]; rfl]; rfl) | (rw [show (bd || flH t P a b d) = false from by rw [h334, (hzz (by omega) (by omega) (by omega) (by omega)).1 h382]; rfl]; rfl)) (by rfl) hJ390
            · show zJW X 365 [(23, zI (b + (zcol d))), (22, zI (a + (zrow d))), (21, zI d), (20, zI (zbz bd)), (19, zI b), (18, zI a), (17, zI k), (16, zI g), (15, zI (zbz wb)), (14, zI n), (12, zR 42), (11, zR 41), (10, zI (zbz vb)), (9, zI c), (8, zI r), (6, zI h), (5, zI e), (4, zR 40), (3, zR 39), (2, zR 38), (1, zR 27), (0, zR 60)] [] M1
              refine z_ald (pc := 365) hc 19 rfl dL_law_365 ?_
              refine z_ilw (pc := 366) hc 1 rfl dL_law_366 ?_
              refine z_ilw (pc := 368) hc 0 rfl dL_law_368 ?_
              refine kc_L_19 (pc := 370) hc rfl (zfitG (Nat.le_of_ble_eq_true rfl) (fun i hi => by first | cases hi | (simp only [zflX, zfl0, Bool.or_eq_true, decide_eq_true_eq] at hi ⊢; omega)) (fun h => by first | rfl | cases h)) (Nat.le_of_ble_eq_true rfl) (ct_L_landT M1 38 (Or.inl rfl) (flV t wb P) hF hV (a + zrow d) (b + zcol d) (show -1 ≤ a + zrow d ∧ a + zrow d ≤ tH t ∧ -1 ≤ b + zcol d ∧ b + zcol d ≤ tW t by omega)) dL_law_370 ?_
              refine z_alw (pc := 373) hc 11 rfl dL_law_373 ?_
              refine z_ilw (pc := 375) hc 1 rfl dL_law_375 ?_
              refine z_ilw (pc := 377) hc 0 rfl dL_law_377 ?_
              refine kc_L_19 (pc := 379) hc rfl (zfitG (Nat.le_of_ble_eq_true rfl) (fun i hi => by first | cases hi | (simp only [zflX, zfl0, Bool.or_eq_true, decide_eq_true_eq] at hi ⊢; omega)) (fun h => by first | rfl | cases h)) (Nat.le_of_ble_eq_true rfl) (ct_L_landT M1 41 (Or.inr rfl) t h41 hO (a + zrow d) (b + zcol d) (by omega)) dL_law_379 ?_
              refine z_ceq (pc := 382) (tgt := 389) hc (by have q1 := zbz_bd (laT (flV t wb P) (a + zrow d) (b + zcol d)); have q2 := zbz_bd (laT t (a + zrow d) (b + zcol d)); omega) (by decide) dL_law_382 (fun h382 => ?_) (fun h382 => ?_)
              · show zJW X 389 [(23, zI (b + (zcol d))), (22, zI (a + (zrow d))), (21, zI d), (20, zI (zbz bd)), (19, zI b), (18, zI a), (17, zI k), (16, zI g), (15, zI (zbz wb)), (14, zI n), (12, zR 42), (11, zR 41), (10, zI (zbz vb)), (9, zI c), (8, zI r), (6, zI h), (5, zI e), (4, zR 40), (3, zR 39), (2, zR 38), (1, zR 27), (0, zR 60)] [] M1
                refine z_iconst (pc := 389) hc 0 dL_law_389 ?_
                exact zJW_eq (by rfl) (by first | (rw [show (bd || flH t P a b d) = true from by rw [h334]; rfl]; rfl) | (rw [show (bd || flH t P a b d) = true from by rw [(hzz (by omega) (by omega) (by omega) (by omega)).2 h382, Bool.or_true]]; rfl) | (rw [show (bd || flH t P a b d) = false from by rw [h334, hz0 (by omega)]; rfl]; rfl) | (rw [show (bd || flH t P a b d) = false from by rw [h334, (hzz (by omega) (by omega) (by omega) (by omega)).1 h382]; rfl]; rfl)) (by rfl) hJ390
              · show zJW X 385 [(23, zI (b + (zcol d))), (22, zI (a + (zrow d))), (21, zI d), (20, zI (zbz bd)), (19, zI b), (18, zI a), (17, zI k), (16, zI g), (15, zI (zbz wb)), (14, zI n), (12, zR 42), (11, zR 41), (10, zI (zbz vb)), (9, zI c), (8, zI r), (6, zI h), (5, zI e), (4, zR 40), (3, zR 39), (2, zR 38), (1, zR 27), (0, zR 60)] [] M1
                refine z_iconst (pc := 385) hc 1 dL_law_385 ?_
                refine z_goto (pc := 386) (tgt := 390) hc (by decide) dL_law_386 ?_
                exact zJW_eq (by rfl) (by first | (rw [show (bd || flH t P a b d) = true from by rw [h334]; rfl]; rfl) | (rw [show (bd || flH t P a b d) = true from by rw [(hzz (by omega) (by omega) (by omega) (by omega)).2 h382, Bool.or_true]]; rfl) | (rw [show (bd || flH t P a b d) = false from by rw [h334, hz0 (by omega)]; rfl]; rfl) | (rw [show (bd || flH t P a b d) = false from by rw [h334, (hzz (by omega) (by omega) (by omega) (by omega)).1 h382]; rfl]; rfl)) (by rfl) hJ390

set_option maxRecDepth 100000 in
set_option maxHeartbeats 4000000 in
theorem law_fill_3 {X : CX} {M1 : Mem} (hc : zCx (KL_law 43) X) (h e r c : Int) (vb wb : Bool) (a b k g n z : Int) (hk : zJW X 398 [(20, zI z), (19, zI b), (18, zI a), (17, zI k), (16, zI g), (15, zI (zbz wb)), (14, zI n), (12, zR 42), (11, zR 41), (10, zI (zbz vb)), (9, zI c), (8, zI r), (6, zI h), (5, zI e), (4, zR 40), (3, zR 39), (2, zR 38), (1, zR 27), (0, zR 60)] [] M1) : zJW X 305 [(21, zI 8), (20, zI z), (19, zI b), (18, zI a), (17, zI k), (16, zI g), (15, zI (zbz wb)), (14, zI n), (12, zR 42), (11, zR 41), (10, zI (zbz vb)), (9, zI c), (8, zI r), (6, zI h), (5, zI e), (4, zR 40), (3, zR 39), (2, zR 38), (1, zR 27), (0, zR 60)] [] M1 := by
  refine z_ilw (pc := 305) hc 0 rfl dL_law_305 ?_
  refine z_bipush (pc := 307) hc 8 (by decide) dL_law_307 ?_
  refine z_cge (pc := 309) (tgt := 398) hc (by omega) (by decide) dL_law_309 (fun h309 => ?_) (fun h309 => ?_)
  · show zJW X 398 [(21, zI 8), (20, zI z), (19, zI b), (18, zI a), (17, zI k), (16, zI g), (15, zI (zbz wb)), (14, zI n), (12, zR 42), (11, zR 41), (10, zI (zbz vb)), (9, zI c), (8, zI r), (6, zI h), (5, zI e), (4, zR 40), (3, zR 39), (2, zR 38), (1, zR 27), (0, zR 60)] [] M1
    refine zJW_sub (lv' := [(20, zI z), (19, zI b), (18, zI a), (17, zI k), (16, zI g), (15, zI (zbz wb)), (14, zI n), (12, zR 42), (11, zR 41), (10, zI (zbz vb)), (9, zI c), (8, zI r), (6, zI h), (5, zI e), (4, zR 40), (3, zR 39), (2, zR 38), (1, zR 27), (0, zR 60)]) [1, 2, 3, 4, 5, 6, 7, 8, 9, 10, 11, 12, 13, 14, 15, 16, 17, 18, 19] rfl ?_
    exact hk
  · exfalso; omega

set_option maxRecDepth 100000 in
set_option maxHeartbeats 4000000 in
theorem law_fill_4 {X : CX} {M1 : Mem} {t : TS} (hc : zCx (KL_law 43) X) {P : Int → Int → Prop} (hT : p4T (M1 40) t) (hO : TOk t) {wb : Bool} (hV : TOk (flV t wb P)) (hF : p4F (M1 38) (flV t wb P)) (h e r c : Int) (vb : Bool) (k g n a b : Int) (hkb : 0 ≤ k ∧ k < 1000) (hgb : 0 ≤ g ∧ g < 1000) (hab : inT t a b = true) (bs : Bool) (hy : bs = true → laT (flV t wb P) a b = wb → zJW X 267 [(17, zI (k + 1)), (16, zI (g + 1)), (15, zI (zbz wb)), (14, zI n), (12, zR 42), (11, zR 41), (10, zI (zbz vb)), (9, zI c), (8, zI r), (6, zI h), (5, zI e), (4, zR 40), (3, zR 39), (2, zR 38), (1, zR 27), (0, zR 60)] [] (beM M1 a b (!wb))) (hn : ¬ (bs = true ∧ laT (flV t wb P) a b = wb) → zJW X 267 [(17, zI (k + 1)), (16, zI g), (15, zI (zbz wb)), (14, zI n), (12, zR 42), (11, zR 41), (10, zI (zbz vb)), (9, zI c), (8, zI r), (6, zI h), (5, zI e), (4, zR 40), (3, zR 39), (2, zR 38), (1, zR 27), (0, zR 60)] [] M1) : zJW X 398 [(20, zI (zbz bs)), (19, zI b), (18, zI a), (17, zI k), (16, zI g), (15, zI (zbz wb)), (14, zI n), (12, zR 42), (11, zR 41), (10, zI (zbz vb)), (9, zI c), (8, zI r), (6, zI h), (5, zI e), (4, zR 40), (3, zR 39), (2, zR 38), (1, zR 27), (0, zR 60)] [] M1 := by
  obtain ⟨hO1, hO2, hO3, hO4, hO5⟩ := id hO
  have e40_0 : M1 40 0 = tH t := hT.1
  have e40_1 : M1 40 1 = tW t := hT.2.1
  have zwb := zbz_bd wb
  have hw9 := zhw (h := tH t) (w := tW t) (by omega) (by omega) (by omega) (by omega)
  have hib := inT_bd hab
  have zla := zbz_bd (laT (flV t wb P) a b)
  refine z_ilw (pc := 398) hc 4 rfl dL_law_398 ?_
  refine z_ilw (pc := 400) hc 0 rfl dL_law_400 ?_
  refine z_beq (pc := 402) (tgt := 434) hc (by decide) dL_law_402 (fun h402 => ?_) (fun h402 => ?_)
  · show zJW X 434 [(20, zI (zbz bs)), (19, zI b), (18, zI a), (17, zI k), (16, zI g), (15, zI (zbz wb)), (14, zI n), (12, zR 42), (11, zR 41), (10, zI (zbz vb)), (9, zI c), (8, zI r), (6, zI h), (5, zI e), (4, zR 40), (3, zR 39), (2, zR 38), (1, zR 27), (0, zR 60)] [zI g] M1
    refine z_iconst (pc := 434) hc 0 dL_law_434 ?_
    refine z_iadd (pc := 435) hc dL_law_435 ?_
    refine z_isw (pc := 436) (lv' := [(16, zI (g + 0)), (20, zI (zbz bs)), (19, zI b), (18, zI a), (17, zI k), (15, zI (zbz wb)), (14, zI n), (12, zR 42), (11, zR 41), (10, zI (zbz vb)), (9, zI c), (8, zI r), (6, zI h), (5, zI e), (4, zR 40), (3, zR 39), (2, zR 38), (1, zR 27), (0, zR 60)]) hc rfl (Nat.le_of_ble_eq_true rfl) dL_law_436 ?_
    refine z_iinc (pc := 438) (lv' := [(17, zI (k + 1)), (16, zI (g + 0)), (20, zI (zbz bs)), (19, zI b), (18, zI a), (15, zI (zbz wb)), (14, zI n), (12, zR 42), (11, zR 41), (10, zI (zbz vb)), (9, zI c), (8, zI r), (6, zI h), (5, zI e), (4, zR 40), (3, zR 39), (2, zR 38), (1, zR 27), (0, zR 60)]) hc 4 rfl rfl (Nat.le_of_ble_eq_true rfl) dL_law_438 ?_
    refine z_goto (pc := 441) (tgt := 267) hc (by decide) dL_law_441 ?_
    refine zJW_sub (lv' := [(17, zI (k + 1)), (16, zI (g + 0)), (15, zI (zbz wb)), (14, zI n), (12, zR 42), (11, zR 41), (10, zI (zbz vb)), (9, zI c), (8, zI r), (6, zI h), (5, zI e), (4, zR 40), (3, zR 39), (2, zR 38), (1, zR 27), (0, zR 60)]) [0, 1, 5, 6, 7, 8, 9, 10, 11, 12, 13, 14, 15, 16, 17, 18] rfl ?_
    exact zJW_eq (lv' := [(17, zI (k + 1)), (16, zI g), (15, zI (zbz wb)), (14, zI n), (12, zR 42), (11, zR 41), (10, zI (zbz vb)), (9, zI c), (8, zI r), (6, zI h), (5, zI e), (4, zR 40), (3, zR 39), (2, zR 38), (1, zR 27), (0, zR 60)]) (by rw [Int.add_zero]) rfl rfl (hn (by first | (intro hq; rw [h402] at hq; exact absurd hq.1 (by decide)) | (intro hq; exact h415 (by rw [hq.2]))))
  · show zJW X 405 [(20, zI (zbz bs)), (19, zI b), (18, zI a), (17, zI k), (16, zI g), (15, zI (zbz wb)), (14, zI n), (12, zR 42), (11, zR 41), (10, zI (zbz vb)), (9, zI c), (8, zI r), (6, zI h), (5, zI e), (4, zR 40), (3, zR 39), (2, zR 38), (1, zR 27), (0, zR 60)] [zI g] M1
    refine z_ald (pc := 405) hc 16 rfl dL_law_405 ?_
    refine z_ilw (pc := 406) hc 2 rfl dL_law_406 ?_
    refine z_ilw (pc := 408) hc 1 rfl dL_law_408 ?_
    refine kc_L_19 (pc := 410) hc rfl (zfitG (Nat.le_of_ble_eq_true rfl) (fun i hi => by first | cases hi | (simp only [zflX, zfl0, Bool.or_eq_true, decide_eq_true_eq] at hi ⊢; omega)) (fun h => by first | rfl | cases h)) (Nat.le_of_ble_eq_true rfl) (ct_L_landT M1 38 (Or.inl rfl) (flV t wb P) hF hV a b (show -1 ≤ a ∧ a ≤ tH t ∧ -1 ≤ b ∧ b ≤ tW t by omega)) dL_law_410 ?_
    refine z_ilw (pc := 413) hc 5 rfl dL_law_413 ?_
    refine z_cne (pc := 415) (tgt := 434) hc (by omega) (by decide) dL_law_415 (fun h415 => ?_) (fun h415 => ?_)
    · show zJW X 434 [(20, zI (zbz bs)), (19, zI b), (18, zI a), (17, zI k), (16, zI g), (15, zI (zbz wb)), (14, zI n), (12, zR 42), (11, zR 41), (10, zI (zbz vb)), (9, zI c), (8, zI r), (6, zI h), (5, zI e), (4, zR 40), (3, zR 39), (2, zR 38), (1, zR 27), (0, zR 60)] [zI g] M1
      refine z_iconst (pc := 434) hc 0 dL_law_434 ?_
      refine z_iadd (pc := 435) hc dL_law_435 ?_
      refine z_isw (pc := 436) (lv' := [(16, zI (g + 0)), (20, zI (zbz bs)), (19, zI b), (18, zI a), (17, zI k), (15, zI (zbz wb)), (14, zI n), (12, zR 42), (11, zR 41), (10, zI (zbz vb)), (9, zI c), (8, zI r), (6, zI h), (5, zI e), (4, zR 40), (3, zR 39), (2, zR 38), (1, zR 27), (0, zR 60)]) hc rfl (Nat.le_of_ble_eq_true rfl) dL_law_436 ?_
      refine z_iinc (pc := 438) (lv' := [(17, zI (k + 1)), (16, zI (g + 0)), (20, zI (zbz bs)), (19, zI b), (18, zI a), (15, zI (zbz wb)), (14, zI n), (12, zR 42), (11, zR 41), (10, zI (zbz vb)), (9, zI c), (8, zI r), (6, zI h), (5, zI e), (4, zR 40), (3, zR 39), (2, zR 38), (1, zR 27), (0, zR 60)]) hc 4 rfl rfl (Nat.le_of_ble_eq_true rfl) dL_law_438 ?_
      refine z_goto (pc := 441) (tgt := 267) hc (by decide) dL_law_441 ?_
      refine zJW_sub (lv' := [(17, zI (k + 1)), (16, zI (g + 0)), (15, zI (zbz wb)), (14, zI n), (12, zR 42), (11, zR 41), (10, zI (zbz vb)), (9, zI c), (8, zI r), (6, zI h), (5, zI e), (4, zR 40), (3, zR 39), (2, zR 38), (1, zR 27), (0, zR 60)]) [0, 1, 5, 6, 7, 8, 9, 10, 11, 12, 13, 14, 15, 16, 17, 18] rfl ?_
      exact zJW_eq (lv' := [(17, zI (k + 1)), (16, zI g), (15, zI (zbz wb)), (14, zI n), (12, zR 42), (11, zR 41), (10, zI (zbz vb)), (9, zI c), (8, zI r), (6, zI h), (5, zI e), (4, zR 40), (3, zR 39), (2, zR 38), (1, zR 27), (0, zR 60)]) (by rw [Int.add_zero]) rfl rfl (hn (by first | (intro hq; rw [h402] at hq; exact absurd hq.1 (by decide)) | (intro hq; exact h415 (by rw [hq.2]))))
    · show zJW X 418 [(20, zI (zbz bs)), (19, zI b), (18, zI a), (17, zI k), (16, zI g), (15, zI (zbz wb)), (14, zI n), (12, zR 42), (11, zR 41), (10, zI (zbz vb)), (9, zI c), (8, zI r), (6, zI h), (5, zI e), (4, zR 40), (3, zR 39), (2, zR 38), (1, zR 27), (0, zR 60)] [zI g] M1
      refine z_ald (pc := 418) hc 16 rfl dL_law_418 ?_
      refine z_ald (pc := 419) hc 15 rfl dL_law_419 ?_
      refine z_ilw (pc := 420) hc 2 rfl dL_law_420 ?_
      refine z_ilw (pc := 422) hc 1 rfl dL_law_422 ?_
      refine z_iconst (pc := 424) hc 1 dL_law_424 ?_
      refine z_ilw (pc := 425) hc 5 rfl dL_law_425 ?_
      refine z_isub (pc := 427) hc dL_law_427 ?_
      refine zJW_eq (st' := [zI (zbz (!wb)), zI b, zI a, zR 39, zR 38, zI g]) rfl (by rw [p4_1m]) rfl ?_
      refine kc_L_117 (pc := 428) hc rfl (zfitG (Nat.le_of_ble_eq_true rfl) (fun i hi => by first | cases hi | (simp only [zflX, zfl0, Bool.or_eq_true, decide_eq_true_eq] at hi ⊢; omega)) (fun h => by first | rfl | cases h)) (Nat.le_of_ble_eq_true rfl) (ct_L_become M1 (flV t wb P) hF hV a b (show inT t a b = true from hab) (!wb)) dL_law_428 ?_
      refine z_goto (pc := 431) (tgt := 435) hc (by decide) dL_law_431 ?_
      refine z_iadd (pc := 435) hc dL_law_435 ?_
      refine z_isw (pc := 436) (lv' := [(16, zI (g + (zbz (laT (flV t wb P) a b != !wb)))), (20, zI (zbz bs)), (19, zI b), (18, zI a), (17, zI k), (15, zI (zbz wb)), (14, zI n), (12, zR 42), (11, zR 41), (10, zI (zbz vb)), (9, zI c), (8, zI r), (6, zI h), (5, zI e), (4, zR 40), (3, zR 39), (2, zR 38), (1, zR 27), (0, zR 60)]) hc rfl (Nat.le_of_ble_eq_true rfl) dL_law_436 ?_
      refine z_iinc (pc := 438) (lv' := [(17, zI (k + 1)), (16, zI (g + (zbz (laT (flV t wb P) a b != !wb)))), (20, zI (zbz bs)), (19, zI b), (18, zI a), (15, zI (zbz wb)), (14, zI n), (12, zR 42), (11, zR 41), (10, zI (zbz vb)), (9, zI c), (8, zI r), (6, zI h), (5, zI e), (4, zR 40), (3, zR 39), (2, zR 38), (1, zR 27), (0, zR 60)]) hc 4 rfl rfl (Nat.le_of_ble_eq_true rfl) dL_law_438 ?_
      refine z_goto (pc := 441) (tgt := 267) hc (by decide) dL_law_441 ?_
      refine zJW_sub (lv' := [(17, zI (k + 1)), (16, zI (g + (zbz (laT (flV t wb P) a b != !wb)))), (15, zI (zbz wb)), (14, zI n), (12, zR 42), (11, zR 41), (10, zI (zbz vb)), (9, zI c), (8, zI r), (6, zI h), (5, zI e), (4, zR 40), (3, zR 39), (2, zR 38), (1, zR 27), (0, zR 60)]) [0, 1, 5, 6, 7, 8, 9, 10, 11, 12, 13, 14, 15, 16, 17, 18] rfl ?_
      have hl : laT (flV t wb P) a b = wb := zbz_e h415
      exact zJW_eq (lv' := [(17, zI (k + 1)), (16, zI (g + 1)), (15, zI (zbz wb)), (14, zI n), (12, zR 42), (11, zR 41), (10, zI (zbz vb)), (9, zI c), (8, zI r), (6, zI h), (5, zI e), (4, zR 40), (3, zR 39), (2, zR 38), (1, zR 27), (0, zR 60)]) (by rw [hl, show (wb != !wb) = true from by cases wb <;> rfl]; rfl) rfl rfl (hy h402 hl)

set_option maxRecDepth 100000 in
set_option maxHeartbeats 4000000 in
theorem law_fill_5 {X : CX} {M1 : Mem} (hc : zCx (KL_law 43) X) (h e r c : Int) (vb wb : Bool) (g n : Int) (hk : zJW X 256 [(16, zI g), (15, zI (zbz wb)), (14, zI (n + g)), (12, zR 42), (11, zR 41), (10, zI (zbz vb)), (9, zI c), (8, zI r), (6, zI h), (5, zI e), (4, zR 40), (3, zR 39), (2, zR 38), (1, zR 27), (0, zR 60)] [] M1) : zJW X 444 [(16, zI g), (15, zI (zbz wb)), (14, zI n), (12, zR 42), (11, zR 41), (10, zI (zbz vb)), (9, zI c), (8, zI r), (6, zI h), (5, zI e), (4, zR 40), (3, zR 39), (2, zR 38), (1, zR 27), (0, zR 60)] [] M1 := by
  refine z_ilw (pc := 444) hc 2 rfl dL_law_444 ?_
  refine z_ilw (pc := 446) hc 0 rfl dL_law_446 ?_
  refine z_iadd (pc := 448) hc dL_law_448 ?_
  refine z_isw (pc := 449) (lv' := [(14, zI (n + g)), (16, zI g), (15, zI (zbz wb)), (12, zR 42), (11, zR 41), (10, zI (zbz vb)), (9, zI c), (8, zI r), (6, zI h), (5, zI e), (4, zR 40), (3, zR 39), (2, zR 38), (1, zR 27), (0, zR 60)]) hc rfl (Nat.le_of_ble_eq_true rfl) dL_law_449 ?_
  refine z_goto (pc := 451) (tgt := 256) hc (by decide) dL_law_451 ?_
  refine zJW_sub (lv' := [(16, zI g), (15, zI (zbz wb)), (14, zI (n + g)), (12, zR 42), (11, zR 41), (10, zI (zbz vb)), (9, zI c), (8, zI r), (6, zI h), (5, zI e), (4, zR 40), (3, zR 39), (2, zR 38), (1, zR 27), (0, zR 60)]) [1, 2, 0, 3, 4, 5, 6, 7, 8, 9, 10, 11, 12, 13, 14] rfl ?_
  exact hk

set_option maxRecDepth 100000 in
set_option maxHeartbeats 4000000 in
theorem law_fill_6 {X : CX} {M1 : Mem} (hc : zCx (KL_law 43) X) (h e r c : Int) (vb wb : Bool) (g n : Int) (hgb : 0 ≤ g ∧ g < 1000) (hx : g ≤ 0 → zJW X 454 [(16, zI g), (15, zI (zbz wb)), (14, zI n), (12, zR 42), (11, zR 41), (10, zI (zbz vb)), (9, zI c), (8, zI r), (6, zI h), (5, zI e), (4, zR 40), (3, zR 39), (2, zR 38), (1, zR 27), (0, zR 60)] [] M1) (hs : g > 0 → zJW X 267 [(17, zI 0), (16, zI 0), (15, zI (zbz wb)), (14, zI n), (12, zR 42), (11, zR 41), (10, zI (zbz vb)), (9, zI c), (8, zI r), (6, zI h), (5, zI e), (4, zR 40), (3, zR 39), (2, zR 38), (1, zR 27), (0, zR 60)] [] M1) : zJW X 256 [(16, zI g), (15, zI (zbz wb)), (14, zI n), (12, zR 42), (11, zR 41), (10, zI (zbz vb)), (9, zI c), (8, zI r), (6, zI h), (5, zI e), (4, zR 40), (3, zR 39), (2, zR 38), (1, zR 27), (0, zR 60)] [] M1 := by
  refine z_ilw (pc := 256) hc 0 rfl dL_law_256 ?_
  refine z_ile (pc := 258) (tgt := 454) hc (by omega) (by decide) dL_law_258 (fun h258 => ?_) (fun h258 => ?_)
  · show zJW X 454 [(16, zI g), (15, zI (zbz wb)), (14, zI n), (12, zR 42), (11, zR 41), (10, zI (zbz vb)), (9, zI c), (8, zI r), (6, zI h), (5, zI e), (4, zR 40), (3, zR 39), (2, zR 38), (1, zR 27), (0, zR 60)] [] M1
    exact hx h258
  · show zJW X 261 [(16, zI g), (15, zI (zbz wb)), (14, zI n), (12, zR 42), (11, zR 41), (10, zI (zbz vb)), (9, zI c), (8, zI r), (6, zI h), (5, zI e), (4, zR 40), (3, zR 39), (2, zR 38), (1, zR 27), (0, zR 60)] [] M1
    refine z_iconst (pc := 261) hc 0 dL_law_261 ?_
    refine z_isw (pc := 262) (lv' := [(16, zI 0), (15, zI (zbz wb)), (14, zI n), (12, zR 42), (11, zR 41), (10, zI (zbz vb)), (9, zI c), (8, zI r), (6, zI h), (5, zI e), (4, zR 40), (3, zR 39), (2, zR 38), (1, zR 27), (0, zR 60)]) hc rfl (Nat.le_of_ble_eq_true rfl) dL_law_262 ?_
    refine z_iconst (pc := 264) hc 0 dL_law_264 ?_
    refine z_isw (pc := 265) (lv' := [(17, zI 0), (16, zI 0), (15, zI (zbz wb)), (14, zI n), (12, zR 42), (11, zR 41), (10, zI (zbz vb)), (9, zI c), (8, zI r), (6, zI h), (5, zI e), (4, zR 40), (3, zR 39), (2, zR 38), (1, zR 27), (0, zR 60)]) hc rfl (Nat.le_of_ble_eq_true rfl) dL_law_265 ?_
    exact hs h258

set_option maxRecDepth 100000 in
set_option maxHeartbeats 4000000 in
theorem law_fill_7 {X : CX} {M M1 : Mem} {t : TS} (hc : zCx (KL_law 43) X) (hLI : p4LI M t) (h41 : p4F (M 41) t) (h42 : p4P (M 42) t) (h e r c g : Int) (vb wb : Bool) (hi : inT t r c = true) (hwb : laT t r c = wb) (hE : p4V t (fun _ _ => !wb) M (M1, nC t 2 r c) (fun a b => dT t r c 2 a b ≠ -1)) (hJ : ∀ (M1 : Mem) (t1 : TS), p4LI M1 t1 → zJW X 1384 [(13, zI 1), (6, zI h), (5, zI e), (4, zR 40), (3, zR 39), (2, zR 38), (1, zR 27), (0, zR 60)] [] M1)  : zJW X 454 [(16, zI g), (15, zI (zbz wb)), (14, zI (nC t 2 r c)), (12, zR 42), (11, zR 41), (10, zI (zbz vb)), (9, zI c), (8, zI r), (6, zI h), (5, zI e), (4, zR 40), (3, zR 39), (2, zR 38), (1, zR 27), (0, zR 60)] [] M1 := by
  obtain ⟨hX, ht, hO, hM⟩ := id hLI
  obtain ⟨hF, hP, hT⟩ := id hM
  obtain ⟨hO1, hO2, hO3, hO4, hO5⟩ := id hO
  have hT1 := hT.1
  have hT2 := hT.2.1
  have hib := inT_bd hi
  have zvb := zbz_bd vb
  have zwb := zbz_bd wb
  have hnb := nC_bd (e := 2) hO hi
  refine z_ilw (pc := 454) hc 5 rfl dL_law_454 ?_
  refine z_ilw (pc := 456) hc 1 rfl dL_law_456 ?_
  refine z_cne (pc := 458) (tgt := 476) hc (by omega) (by decide) dL_law_458 (fun h458 => ?_) (fun h458 => ?_)
  · show zJW X 476 [(16, zI g), (15, zI (zbz wb)), (14, zI (nC t 2 r c)), (12, zR 42), (11, zR 41), (10, zI (zbz vb)), (9, zI c), (8, zI r), (6, zI h), (5, zI e), (4, zR 40), (3, zR 39), (2, zR 38), (1, zR 27), (0, zR 60)] [] M1
    have hv : (!wb) = vb := by revert h458; cases wb <;> cases vb <;> decide
    rw [hv] at hE
    have hlv : laT t r c ≠ vb := by rw [hwb, ← hv]; cases wb <;> decide
    have hMb := hE.1
    have hOs := hE.2.2.1
    have hXb := p4Y_lo (M' := M1) ⟨hX, ht⟩ (fun k hk => hE.2.2.2 k (by omega) (by omega))
    refine z_ald (pc := 476) hc 13 rfl dL_law_476 ?_
    refine z_ilw (pc := 477) hc 7 rfl dL_law_477 ?_
    refine z_ilw (pc := 479) hc 6 rfl dL_law_479 ?_
    refine z_ilw (pc := 481) hc 5 rfl dL_law_481 ?_
    refine z_iconst (pc := 483) hc 1 dL_law_483 ?_
    have hJ492 : zJW X 492 [(16, zI g), (15, zI (zbz wb)), (14, zI (nC t 2 r c)), (12, zR 42), (11, zR 41), (10, zI (zbz vb)), (9, zI c), (8, zI r), (6, zI h), (5, zI e), (4, zR 40), (3, zR 39), (2, zR 38), (1, zR 27), (0, zR 60)] [zI (zbz vb), zI c, zI r, zR 27] M1 := by
      refine kg_L_128 (pc := 492) hc rfl (zfitG (Nat.le_of_ble_eq_true rfl) (fun i hi => by first | cases hi | (simp only [zflX, zfl0, Bool.or_eq_true, decide_eq_true_eq] at hi ⊢; omega)) (fun h => by first | rfl | cases h)) (by rfl) (Nat.le_of_ble_eq_true rfl) (ct_X5_fill M1 hXb.1 r (by omega) c (by omega) vb) dL_law_492 (fun zr M2 hq => ?_)
      obtain ⟨rfl, hY⟩ := qi_fill hXb.1 hXb.2 hi hlv hq
      have hM1 := p4M_hi hMb hY.2.2
      show zJW X 495 [(16, zI g), (15, zI (zbz wb)), (14, zI (nC t 2 r c)), (12, zR 42), (11, zR 41), (10, zI (zbz vb)), (9, zI c), (8, zI r), (6, zI h), (5, zI e), (4, zR 40), (3, zR 39), (2, zR 38), (1, zR 27), (0, zR 60)] [zI (nC t 2 r c)] M2
      refine z_ilw (pc := 495) hc 2 rfl dL_law_495 ?_
      refine z_cne (pc := 497) (tgt := 504) hc (by omega) (by decide) dL_law_497 (fun h497 => ?_) (fun h497 => ?_)
      · exfalso; omega
      · show zJW X 500 [(16, zI g), (15, zI (zbz wb)), (14, zI (nC t 2 r c)), (12, zR 42), (11, zR 41), (10, zI (zbz vb)), (9, zI c), (8, zI r), (6, zI h), (5, zI e), (4, zR 40), (3, zR 39), (2, zR 38), (1, zR 27), (0, zR 60)] [] M2
        refine z_iconst (pc := 500) hc 1 dL_law_500 ?_
        refine z_goto (pc := 501) (tgt := 505) hc (by decide) dL_law_501 ?_
        refine z_isw (pc := 505) (lv' := [(13, zI 1), (16, zI g), (15, zI (zbz wb)), (14, zI (nC t 2 r c)), (12, zR 42), (11, zR 41), (10, zI (zbz vb)), (9, zI c), (8, zI r), (6, zI h), (5, zI e), (4, zR 40), (3, zR 39), (2, zR 38), (1, zR 27), (0, zR 60)]) hc rfl (Nat.le_of_ble_eq_true rfl) dL_law_505 ?_
        refine z_goto (pc := 507) (tgt := 1384) hc (by decide) dL_law_507 ?_
        refine zJW_sub (lv' := [(13, zI 1), (6, zI h), (5, zI e), (4, zR 40), (3, zR 39), (2, zR 38), (1, zR 27), (0, zR 60)]) [0, 9, 10, 11, 12, 13, 14, 15] rfl ?_
        exact hJ M2 _ ⟨hY.1, hY.2.1, by first | exact hOs | exact hO, hM1⟩
    refine z_cne (pc := 484) (tgt := 491) hc (by omega) (by decide) dL_law_484 (fun h484 => ?_) (fun h484 => ?_)
    · show zJW X 491 [(16, zI g), (15, zI (zbz wb)), (14, zI (nC t 2 r c)), (12, zR 42), (11, zR 41), (10, zI (zbz vb)), (9, zI c), (8, zI r), (6, zI h), (5, zI e), (4, zR 40), (3, zR 39), (2, zR 38), (1, zR 27), (0, zR 60)] [zI c, zI r, zR 27] M1
      refine z_iconst (pc := 491) hc 0 dL_law_491 ?_
      exact zJW_eq (by rfl) (by first | exact p4_zz1 h484 | exact p4_zz0 h484) (by rfl) hJ492
    · show zJW X 487 [(16, zI g), (15, zI (zbz wb)), (14, zI (nC t 2 r c)), (12, zR 42), (11, zR 41), (10, zI (zbz vb)), (9, zI c), (8, zI r), (6, zI h), (5, zI e), (4, zR 40), (3, zR 39), (2, zR 38), (1, zR 27), (0, zR 60)] [zI c, zI r, zR 27] M1
      refine z_iconst (pc := 487) hc 1 dL_law_487 ?_
      refine z_goto (pc := 488) (tgt := 492) hc (by decide) dL_law_488 ?_
      exact zJW_eq (by rfl) (by first | exact p4_zz1 h484 | exact p4_zz0 h484) (by rfl) hJ492
  · show zJW X 461 [(16, zI g), (15, zI (zbz wb)), (14, zI (nC t 2 r c)), (12, zR 42), (11, zR 41), (10, zI (zbz vb)), (9, zI c), (8, zI r), (6, zI h), (5, zI e), (4, zR 40), (3, zR 39), (2, zR 38), (1, zR 27), (0, zR 60)] [] M1
    refine z_alw (pc := 461) hc 4 rfl dL_law_461 ?_
    refine z_ald (pc := 463) hc 12 rfl dL_law_463 ?_
    refine kc_L_113 (pc := 464) hc rfl (zfitG (Nat.le_of_ble_eq_true rfl) (fun i hi => by first | cases hi | (simp only [zflX, zfl0, Bool.or_eq_true, decide_eq_true_eq] at hi ⊢; omega)) (fun h => by first | rfl | cases h)) (Nat.le_of_ble_eq_true rfl) (ct_L_copy_41_38 M1) dL_law_464 ?_
    refine z_alw (pc := 467) hc 3 rfl dL_law_467 ?_
    refine z_ald (pc := 469) hc 11 rfl dL_law_469 ?_
    refine kc_L_113 (pc := 470) hc rfl (zfitG (Nat.le_of_ble_eq_true rfl) (fun i hi => by first | cases hi | (simp only [zflX, zfl0, Bool.or_eq_true, decide_eq_true_eq] at hi ⊢; omega)) (fun h => by first | rfl | cases h)) (Nat.le_of_ble_eq_true rfl) (ct_L_copy_42_39 (cpM M1 41 38 14)) dL_law_470 ?_
    refine z_iconst (pc := 473) hc 0 dL_law_473 ?_
    refine z_isw (pc := 474) (lv' := [(14, zI 0), (16, zI g), (15, zI (zbz wb)), (12, zR 42), (11, zR 41), (10, zI (zbz vb)), (9, zI c), (8, zI r), (6, zI h), (5, zI e), (4, zR 40), (3, zR 39), (2, zR 38), (1, zR 27), (0, zR 60)]) hc rfl (Nat.le_of_ble_eq_true rfl) dL_law_474 ?_
    have hv : laT t r c = vb := by rw [hwb]; exact (zbz_e h458).symm
    have g38 : ∀ z : Int, 0 ≤ z ∧ z < 14 → (cpM (cpM M1 41 38 14) 42 39 36) 38 z = M 41 z := fun z hz => by rw [cpM_off (by decide), cpM_to hz, show M1 41 = M 41 from hE.2.2.2 41 (by decide) (by decide)]
    have g39 : ∀ z : Int, 0 ≤ z ∧ z < 36 → (cpM (cpM M1 41 38 14) 42 39 36) 39 z = M 42 z := fun z hz => by rw [cpM_to hz, cpM_off (by decide), show M1 42 = M 42 from hE.2.2.2 42 (by decide) (by decide)]
    have g40 : (cpM (cpM M1 41 38 14) 42 39 36) 40 = M 40 := by rw [cpM_off (by decide), cpM_off (by decide)]; exact hE.2.2.2 40 (by decide) (by decide)
    have hMb : p4M (cpM (cpM M1 41 38 14) 42 39 36) t := by
      refine ⟨fun r c a1 a2 a3 a4 => ?_, fun r c hi => ?_, by rw [g40]; exact hT⟩
      · have e : laZ ((cpM (cpM M1 41 38 14) 42 39 36) 38) r c = laZ (M 41) r c := by unfold laZ; rw [g38 (r + 1) (by omega)]
        rw [e]
        exact h41 r c a1 a2 a3 a4
      · have hib := inT_bd hi
        have e : piZ ((cpM (cpM M1 41 38 14) 42 39 36) 39) r c = piZ (M 42) r c := by unfold piZ; rw [g39 (3 * r + c / 4) (by omega)]
        rw [e]
        exact h42 r c hi
    have hXb := p4Y_lo (M' := (cpM (cpM M1 41 38 14) 42 39 36)) ⟨hX, ht⟩ (fun k hk => by rw [cpM_off (by omega), cpM_off (by omega)]; exact hE.2.2.2 k (by omega) (by omega))
    refine z_ald (pc := 476) hc 13 rfl dL_law_476 ?_
    refine z_ilw (pc := 477) hc 7 rfl dL_law_477 ?_
    refine z_ilw (pc := 479) hc 6 rfl dL_law_479 ?_
    refine z_ilw (pc := 481) hc 5 rfl dL_law_481 ?_
    refine z_iconst (pc := 483) hc 1 dL_law_483 ?_
    have hJ492 : zJW X 492 [(14, zI 0), (16, zI g), (15, zI (zbz wb)), (12, zR 42), (11, zR 41), (10, zI (zbz vb)), (9, zI c), (8, zI r), (6, zI h), (5, zI e), (4, zR 40), (3, zR 39), (2, zR 38), (1, zR 27), (0, zR 60)] [zI (zbz vb), zI c, zI r, zR 27] (cpM (cpM M1 41 38 14) 42 39 36) := by
      refine kg_L_128 (pc := 492) hc rfl (zfitG (Nat.le_of_ble_eq_true rfl) (fun i hi => by first | cases hi | (simp only [zflX, zfl0, Bool.or_eq_true, decide_eq_true_eq] at hi ⊢; omega)) (fun h => by first | rfl | cases h)) (by rfl) (Nat.le_of_ble_eq_true rfl) (ct_X5_fill (cpM (cpM M1 41 38 14) 42 39 36) hXb.1 r (by omega) c (by omega) vb) dL_law_492 (fun zr M2 hq => ?_)
      obtain ⟨rfl, hY⟩ := qi_fill0 hXb.1 hXb.2 hi hv hq
      have hM1 := p4M_hi hMb hY.2.2
      show zJW X 495 [(14, zI 0), (16, zI g), (15, zI (zbz wb)), (12, zR 42), (11, zR 41), (10, zI (zbz vb)), (9, zI c), (8, zI r), (6, zI h), (5, zI e), (4, zR 40), (3, zR 39), (2, zR 38), (1, zR 27), (0, zR 60)] [zI 0] M2
      refine z_ilw (pc := 495) hc 0 rfl dL_law_495 ?_
      refine z_cne (pc := 497) (tgt := 504) hc (by omega) (by decide) dL_law_497 (fun h497 => ?_) (fun h497 => ?_)
      · exfalso; omega
      · show zJW X 500 [(14, zI 0), (16, zI g), (15, zI (zbz wb)), (12, zR 42), (11, zR 41), (10, zI (zbz vb)), (9, zI c), (8, zI r), (6, zI h), (5, zI e), (4, zR 40), (3, zR 39), (2, zR 38), (1, zR 27), (0, zR 60)] [] M2
        refine z_iconst (pc := 500) hc 1 dL_law_500 ?_
        refine z_goto (pc := 501) (tgt := 505) hc (by decide) dL_law_501 ?_
        refine z_isw (pc := 505) (lv' := [(13, zI 1), (14, zI 0), (16, zI g), (15, zI (zbz wb)), (12, zR 42), (11, zR 41), (10, zI (zbz vb)), (9, zI c), (8, zI r), (6, zI h), (5, zI e), (4, zR 40), (3, zR 39), (2, zR 38), (1, zR 27), (0, zR 60)]) hc rfl (Nat.le_of_ble_eq_true rfl) dL_law_505 ?_
        refine z_goto (pc := 507) (tgt := 1384) hc (by decide) dL_law_507 ?_
        refine zJW_sub (lv' := [(13, zI 1), (6, zI h), (5, zI e), (4, zR 40), (3, zR 39), (2, zR 38), (1, zR 27), (0, zR 60)]) [0, 9, 10, 11, 12, 13, 14, 15] rfl ?_
        exact hJ M2 _ ⟨hY.1, hY.2.1, by first | exact hOs | exact hO, hM1⟩
    refine z_cne (pc := 484) (tgt := 491) hc (by omega) (by decide) dL_law_484 (fun h484 => ?_) (fun h484 => ?_)
    · show zJW X 491 [(14, zI 0), (16, zI g), (15, zI (zbz wb)), (12, zR 42), (11, zR 41), (10, zI (zbz vb)), (9, zI c), (8, zI r), (6, zI h), (5, zI e), (4, zR 40), (3, zR 39), (2, zR 38), (1, zR 27), (0, zR 60)] [zI c, zI r, zR 27] (cpM (cpM M1 41 38 14) 42 39 36)
      refine z_iconst (pc := 491) hc 0 dL_law_491 ?_
      exact zJW_eq (by rfl) (by first | exact p4_zz1 h484 | exact p4_zz0 h484) (by rfl) hJ492
    · show zJW X 487 [(14, zI 0), (16, zI g), (15, zI (zbz wb)), (12, zR 42), (11, zR 41), (10, zI (zbz vb)), (9, zI c), (8, zI r), (6, zI h), (5, zI e), (4, zR 40), (3, zR 39), (2, zR 38), (1, zR 27), (0, zR 60)] [zI c, zI r, zR 27] (cpM (cpM M1 41 38 14) 42 39 36)
      refine z_iconst (pc := 487) hc 1 dL_law_487 ?_
      refine z_goto (pc := 488) (tgt := 492) hc (by decide) dL_law_488 ?_
      exact zJW_eq (by rfl) (by first | exact p4_zz1 h484 | exact p4_zz0 h484) (by rfl) hJ492

/-- one time over the map -/
theorem law_fill_p {X : CX} {M : Mem} {t : TS} (hc : zCx (KL_law 43) X) (hO : TOk t) (hTM : p4T (M 40) t) (h41 : p4F (M 41) t) (h e r c : Int) (vb wb : Bool) (hi : inT t r c = true) (hwb : laT t r c = wb) (n : Int) (hn : 0 ≤ n) (hx : ∀ (M1 : Mem) (g : Int) (P : Int → Int → Prop), flI t r c wb M M1 (n + g) P → 0 ≤ g → (g = 0 → ∀ a b : Int, inT t a b = true → flC t wb P a b) → zJW X 444 [(16, zI g), (15, zI (zbz wb)), (14, zI n), (12, zR 42), (11, zR 41), (10, zI (zbz vb)), (9, zI c), (8, zI r), (6, zI h), (5, zI e), (4, zR 40), (3, zR 39), (2, zR 38), (1, zR 27), (0, zR 60)] [] M1) : ∀ (d i : Nat) (M1 : Mem) (g : Int) (P : Int → Int → Prop), ((i + d : Nat) : Int) = tH t * tW t → flI t r c wb M M1 (n + g) P → 0 ≤ g → (g = 0 → ∀ j : Nat, j < i → flC t wb P ((j : Int) / tW t) ((j : Int) % tW t)) → zJW X 267 [(17, zI (i : Int)), (16, zI g), (15, zI (zbz wb)), (14, zI n), (12, zR 42), (11, zR 41), (10, zI (zbz vb)), (9, zI c), (8, zI r), (6, zI h), (5, zI e), (4, zR 40), (3, zR 39), (2, zR 38), (1, zR 27), (0, zR 60)] [] M1
  | 0, i, M1, g, P, hd, hI, hg, hC => by
    have h40 : p4T (M1 40) t := by rw [show M1 40 = M 40 from hI.1.2.2.2 40 (by decide) (by decide)]; exact hTM
    exact law_fill_1 hc h40 hO h e r c vb wb g n i (by omega) (fun _ => hx M1 g P hI hg (fun g0 a b hab => fl_C hO (fun j hj => hC g0 j (by omega)) hab)) (fun hlt => by exfalso; omega)
  | d + 1, i, M1, g, P, hd, hI, hg, hC => by
    have h40 : p4T (M1 40) t := by rw [show M1 40 = M 40 from hI.1.2.2.2 40 (by decide) (by decide)]; exact hTM
    have g41 : p4F (M1 41) t := by rw [show M1 41 = M 41 from hI.1.2.2.2 41 (by decide) (by decide)]; exact h41
    have hV : TOk (flV t wb P) := hI.1.2.2.1
    have hF : p4F (M1 38) (flV t wb P) := hI.1.1.1
    have hbd := fl_bd hO hI
    have hw9 := zhw hO.1 hO.2.1 hO.2.2.1 hO.2.2.2.1
    have hw0 := hO.2.2.1
    refine law_fill_1 hc h40 hO h e r c vb wb g n i (by omega) (fun hle => by exfalso; omega) (fun hlt => ?_)
    obtain ⟨hab, -⟩ := kx_in hO hlt
    obtain ⟨a, ha⟩ : ∃ a : Int, a = (i : Int) / tW t := ⟨_, rfl⟩
    obtain ⟨b, hb⟩ : ∃ b : Int, b = (i : Int) % tW t := ⟨_, rfl⟩
    rw [← ha, ← hb] at hab ⊢
    refine law_fill_2 hc h40 hO hV hF g41 hi hwb hI.2 h e vb i g n a b 0 hab (by decide) false ?_
    refine law_fill_2 hc h40 hO hV hF g41 hi hwb hI.2 h e vb i g n a b 2 hab (by decide) _ ?_
    refine law_fill_2 hc h40 hO hV hF g41 hi hwb hI.2 h e vb i g n a b 4 hab (by decide) _ ?_
    refine law_fill_2 hc h40 hO hV hF g41 hi hwb hI.2 h e vb i g n a b 6 hab (by decide) _ ?_
    refine law_fill_3 hc h e r c vb wb a b i g n _ ?_
    refine law_fill_4 hc h40 hO hV hF h e r c vb i g n a b (by omega) (by omega) hab (flB t P a b) (fun hbs hl => ?_) (fun hno => ?_)
    · have hs := fl_s hO hi hwb hI hab hbs hl
      rw [Int.add_assoc] at hs
      exact law_fill_p hc hO hTM h41 h e r c vb wb hi hwb n hn hx d (i + 1) (beM M1 a b (!wb)) (g + 1) _ (by omega) hs (by omega) (fun h0 => by exfalso; omega)
    · refine law_fill_p hc hO hTM h41 h e r c vb wb hi hwb n hn hx d (i + 1) M1 g P (by omega) hI hg (fun g0 j hj => ?_)
      by_cases hji : j < i
      · exact hC g0 j hji
      · have e : j = i := by omega
        rw [e, ← ha, ← hb]
        exact fl_n hO hi hwb hI.2 hab hno
/-- over the map until nothing grows -/
theorem law_fill_w {X : CX} {M : Mem} {t : TS} (hc : zCx (KL_law 43) X) (hO : TOk t) (hTM : p4T (M 40) t) (h41 : p4F (M 41) t) (h e r c : Int) (vb wb : Bool) (hi : inT t r c = true) (hwb : laT t r c = wb) (hx : ∀ (M1 : Mem) (g n : Int) (P : Int → Int → Prop), flI t r c wb M M1 n P → (∀ a b : Int, inT t a b = true → flC t wb P a b) → zJW X 454 [(16, zI g), (15, zI (zbz wb)), (14, zI n), (12, zR 42), (11, zR 41), (10, zI (zbz vb)), (9, zI c), (8, zI r), (6, zI h), (5, zI e), (4, zR 40), (3, zR 39), (2, zR 38), (1, zR 27), (0, zR 60)] [] M1) : ∀ (f : Nat) (M1 : Mem) (g n : Int) (P : Int → Int → Prop), flI t r c wb M M1 n P → 0 ≤ g ∧ g ≤ 144 → (g = 0 → ∀ a b : Int, inT t a b = true → flC t wb P a b) → (0 < g → 145 - n ≤ f) → zJW X 256 [(16, zI g), (15, zI (zbz wb)), (14, zI n), (12, zR 42), (11, zR 41), (10, zI (zbz vb)), (9, zI c), (8, zI r), (6, zI h), (5, zI e), (4, zR 40), (3, zR 39), (2, zR 38), (1, zR 27), (0, zR 60)] [] M1
  | 0, M1, g, n, P, hI, hg, hC, hf => by
    have hbd := fl_bd hO hI
    exact law_fill_6 hc h e r c vb wb g n (by omega) (fun hle => hx M1 g n P hI (hC (by omega))) (fun hgt => by exfalso; have := hf hgt; omega)
  | f + 1, M1, g, n, P, hI, hg, hC, hf => by
    have hbd := fl_bd hO hI
    have hw9 := zhw hO.1 hO.2.1 hO.2.2.1 hO.2.2.2.1
    refine law_fill_6 hc h e r c vb wb g n (by omega) (fun hle => hx M1 g n P hI (hC (by omega))) (fun hgt => ?_)
    have hf2 := hf hgt
    refine law_fill_p hc hO hTM h41 h e r c vb wb hi hwb n hbd.1 (fun M2 g2 P2 hI2 hg2 hC2 => ?_) (tH t * tW t).toNat 0 M1 0 P (by omega) (by rw [Int.add_zero]; exact hI) (by decide) (fun _ j hj => absurd hj (Nat.not_lt_zero j))
    have hbd2 := fl_bd hO hI2
    exact law_fill_5 hc h e r c vb wb g2 n (law_fill_w hc hO hTM h41 h e r c vb wb hi hwb hx f M2 g2 (n + g2) P2 hI2 (by omega) hC2 (fun h0 => by omega))

set_option maxRecDepth 100000 in
set_option maxHeartbeats 4000000 in
theorem law_fill {X : CX} {M : Mem} {t : TS} (hc : zCx (KL_law 43) X) (hLI : p4LI M t) (h41 : p4F (M 41) t) (h42 : p4P (M 42) t) (e h kd r c : Int) (vb : Bool) (hi : inT t r c = true) (hJ : ∀ (M1 : Mem) (t1 : TS), p4LI M1 t1 → zJW X 1384 [(13, zI 1), (6, zI h), (5, zI e), (4, zR 40), (3, zR 39), (2, zR 38), (1, zR 27), (0, zR 60)] [] M1)  : zJW X 228 [(14, zI 0), (13, zI 1), (12, zR 42), (11, zR 41), (10, zI (zbz vb)), (9, zI c), (8, zI r), (7, zI kd), (6, zI h), (5, zI e), (4, zR 40), (3, zR 39), (2, zR 38), (1, zR 27), (0, zR 60)] [] M := by
  obtain ⟨hX, ht, hO, hM⟩ := id hLI
  obtain ⟨hF, hP, hT⟩ := id hM
  obtain ⟨hO1, hO2, hO3, hO4, hO5⟩ := id hO
  have hT1 := hT.1
  have hT2 := hT.2.1
  have hib := inT_bd hi
  obtain ⟨wb, hwb⟩ : ∃ wb : Bool, laT t r c = wb := ⟨_, rfl⟩
  have zvb := zbz_bd vb
  have zwb := zbz_bd wb
  refine z_ald (pc := 228) hc 12 rfl dL_law_228 ?_
  refine z_ilw (pc := 229) hc 6 rfl dL_law_229 ?_
  refine z_ilw (pc := 231) hc 5 rfl dL_law_231 ?_
  refine kc_L_19 (pc := 233) hc rfl (zfitG (Nat.le_of_ble_eq_true rfl) (fun i hi => by first | cases hi | (simp only [zflX, zfl0, Bool.or_eq_true, decide_eq_true_eq] at hi ⊢; omega)) (fun h => by first | rfl | cases h)) (Nat.le_of_ble_eq_true rfl) (ct_L_landT M 38 (Or.inl rfl) t hF hO r c (by omega)) dL_law_233 ?_
  refine zJW_eq (st' := [zI (zbz wb)]) rfl (by rw [hwb]) rfl ?_
  refine z_isw (pc := 236) (lv' := [(15, zI (zbz wb)), (14, zI 0), (13, zI 1), (12, zR 42), (11, zR 41), (10, zI (zbz vb)), (9, zI c), (8, zI r), (7, zI kd), (6, zI h), (5, zI e), (4, zR 40), (3, zR 39), (2, zR 38), (1, zR 27), (0, zR 60)]) hc rfl (Nat.le_of_ble_eq_true rfl) dL_law_236 ?_
  refine z_iconst (pc := 238) hc 1 dL_law_238 ?_
  refine z_isw (pc := 239) (lv' := [(16, zI 1), (15, zI (zbz wb)), (14, zI 0), (13, zI 1), (12, zR 42), (11, zR 41), (10, zI (zbz vb)), (9, zI c), (8, zI r), (7, zI kd), (6, zI h), (5, zI e), (4, zR 40), (3, zR 39), (2, zR 38), (1, zR 27), (0, zR 60)]) hc rfl (Nat.le_of_ble_eq_true rfl) dL_law_239 ?_
  refine z_ald (pc := 241) hc 14 rfl dL_law_241 ?_
  refine z_ald (pc := 242) hc 13 rfl dL_law_242 ?_
  refine z_ilw (pc := 243) hc 8 rfl dL_law_243 ?_
  refine z_ilw (pc := 245) hc 7 rfl dL_law_245 ?_
  refine z_iconst (pc := 247) hc 1 dL_law_247 ?_
  refine z_ilw (pc := 248) hc 1 rfl dL_law_248 ?_
  refine z_isub (pc := 250) hc dL_law_250 ?_
  refine zJW_eq (st' := [zI (zbz (!wb)), zI c, zI r, zR 39, zR 38]) rfl (by rw [p4_1m]) rfl ?_
  refine kc_L_117 (pc := 251) hc rfl (zfitG (Nat.le_of_ble_eq_true rfl) (fun i hi => by first | cases hi | (simp only [zflX, zfl0, Bool.or_eq_true, decide_eq_true_eq] at hi ⊢; omega)) (fun h => by first | rfl | cases h)) (Nat.le_of_ble_eq_true rfl) (ct_L_become M t hF hO r c hi (!wb)) dL_law_251 ?_
  refine z_isw (pc := 254) (lv' := [(14, zI (zbz (laT t r c != !wb))), (16, zI 1), (15, zI (zbz wb)), (13, zI 1), (12, zR 42), (11, zR 41), (10, zI (zbz vb)), (9, zI c), (8, zI r), (7, zI kd), (6, zI h), (5, zI e), (4, zR 40), (3, zR 39), (2, zR 38), (1, zR 27), (0, zR 60)]) hc rfl (Nat.le_of_ble_eq_true rfl) dL_law_254 ?_
  refine zJW_sub (lv' := [(16, zI 1), (15, zI (zbz wb)), (14, zI (zbz (laT t r c != !wb))), (12, zR 42), (11, zR 41), (10, zI (zbz vb)), (9, zI c), (8, zI r), (6, zI h), (5, zI e), (4, zR 40), (3, zR 39), (2, zR 38), (1, zR 27), (0, zR 60)]) [1, 2, 0, 4, 5, 6, 7, 8, 10, 11, 12, 13, 14, 15, 16] rfl ?_
  refine zJW_eq (lv' := [(16, zI 1), (15, zI (zbz wb)), (14, zI 1), (12, zR 42), (11, zR 41), (10, zI (zbz vb)), (9, zI c), (8, zI r), (6, zI h), (5, zI e), (4, zR 40), (3, zR 39), (2, zR 38), (1, zR 27), (0, zR 60)]) (by rw [hwb, show (wb != !wb) = true from by cases wb <;> rfl]; rfl) rfl rfl ?_
  refine law_fill_w hc hO hT h41 h e r c vb wb hi hwb (fun M1 g n P hI hC => ?_) 144 (beM M r c (!wb)) 1 1 _ (fl_0 hO hM hi hwb) (by decide) (fun h0 => absurd h0 (by decide)) (fun _ => by decide)
  have hE := fl_end hO hi hwb hI hC
  rw [hE.2]
  exact law_fill_7 hc hLI h41 h42 h e r c g vb wb hi hwb hE.1 hJ

