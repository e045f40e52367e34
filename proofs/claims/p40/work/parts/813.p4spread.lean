theorem zrep_0 {α : Type} (f : Nat → α → α) (a : α) : zrep f 0 a = a := rfl
theorem foI_s {h w : Int} {S : Int → Int → Bool} {i : Nat} (j : Nat) (x : Int) : zrep (foI h w S i) (j + 1) x = if S (h - 1 - (i : Int)) (w - 1 - (j : Int)) = true then 100 * (h - 1 - (i : Int)) + (w - 1 - (j : Int)) else zrep (foI h w S i) j x := rfl
theorem foO_s {h w : Int} {S : Int → Int → Bool} (i : Nat) (x : Int) : zrep (foO h w S) (i + 1) x = zrep (foI h w S i) w.toNat (zrep (foO h w S) i x) := rfl
set_option maxRecDepth 100000 in
set_option maxHeartbeats 600000 in
theorem spr_end_1 {X X0 : CX} {M : Mem} {t : TS} {r0 c0 wr wc : Int} (hc : zCx KLs1 X) (hX32 : ∀ j : Int, 0 ≤ j → j < 5 → 3 ≤ M 32 j ∧ M 32 j ≤ 7) (hF : p4F (M 38) t) (hT : p4T (M 40) t) (hO : TOk t) (hi0 : inT t r0 c0 = true) (hiw : inT t wr wc = true) (J : Nat) (hJ1 : 1 ≤ J) (hJ : J ≤ 144) (ha : zAl 45 (1 + J) (12 + 12 * J) X0 X) (he : zEndA 145 1740 (fun v M' => v = some (spR t r0 c0 1 wr wc) ∧ M' = M) X0) (hgz : gr t r0 c0 1 J = 0) : zJW X 26 [(11, zI (gr t r0 c0 1 J)), (10, zI (J : Int)), (9, zI (cnS t r0 c0 1 J)), (8, zI (stS t r0 c0 1 wr wc J)), (7, zR 43), (0, zR 38), (1, zR 40), (2, zI r0), (3, zI c0), (4, zI 1), (5, zI wr), (6, zI wc)] [] (hM M (Sb t r0 c0 1 J) (Bj t r0 c0 1 M J)) := by
  obtain ⟨hO1, hO2, hO3, hO4, hO5⟩ := id hO
  have ht12 : tH t ≤ 12 ∧ tW t ≤ 12 := ⟨hO2, hO4⟩
  have hT1 := hT.1
  have hT2 := hT.2.1
  have hib0 := inT_bd hi0
  have hibw := inT_bd hiw
  have hst := stS_bd (t := t) (r0 := r0) (c0 := c0) (e := 1) (wr := wr) (wc := wc) ht12 hi0 J
  have hz0 := zmk12_bd (fun c : Nat => (Sb t r0 c0 1 J) 0 c)
  have hz1 := zmk12_bd (fun c : Nat => (Sb t r0 c0 1 J) (M 40 0 - 1) c)
  refine z_ilw (pc := 26) hc 0 rfl dL_spread_26 ?_
  refine z_ile (pc := 28) (tgt := 300) hc (by omega) (by decide) dL_spread_28 (fun h28 => ?_) (fun h28 => ?_)
  · show zJW X 300 [(11, zI (gr t r0 c0 1 J)), (10, zI (J : Int)), (9, zI (cnS t r0 c0 1 J)), (8, zI (stS t r0 c0 1 wr wc J)), (7, zR 43), (0, zR 38), (1, zR 40), (2, zI r0), (3, zI c0), (4, zI 1), (5, zI wr), (6, zI wc)] [] (hM M (Sb t r0 c0 1 J) (Bj t r0 c0 1 M J))
    refine z_alw (pc := 300) hc 4 rfl dL_spread_300 ?_
    refine z_iconst (pc := 302) hc 0 dL_spread_302 ?_
    refine z_iald (pc := 303) hc (by decide) rfl rfl (by decide) (by omega) dL_spread_303 ?_
    refine zJW_eq (st' := [zI (zmk (fun c : Nat => (Sb t r0 c0 1 J) 0 c) 12)]) rfl (by rw [hM_43 (by omega)]) rfl ?_
    have hJ323 : zJW X 323 [(11, zI (gr t r0 c0 1 J)), (10, zI (J : Int)), (9, zI (cnS t r0 c0 1 J)), (8, zI (stS t r0 c0 1 wr wc J)), (7, zR 43), (0, zR 38), (1, zR 40), (2, zI r0), (3, zI c0), (4, zI 1), (5, zI wr), (6, zI wc)] [zI (zbz (enB (M 40 0) (M 40 1) (Sb t r0 c0 1 J) 0))] (hM M (Sb t r0 c0 1 J) (Bj t r0 c0 1 M J)) := by
      refine z_isw (pc := 323) (lv' := [(12, zI (zbz (enB (M 40 0) (M 40 1) (Sb t r0 c0 1 J) 0))), (11, zI (gr t r0 c0 1 J)), (10, zI (J : Int)), (9, zI (cnS t r0 c0 1 J)), (8, zI (stS t r0 c0 1 wr wc J)), (7, zR 43), (0, zR 38), (1, zR 40), (2, zI r0), (3, zI c0), (4, zI 1), (5, zI wr), (6, zI wc)]) hc rfl (Nat.le_of_ble_eq_true rfl) dL_spread_323 ?_
      refine z_iconst (pc := 325) hc (-1) dL_spread_325 ?_
      refine z_isw (pc := 326) (lv' := [(13, zI (-1)), (12, zI (zbz (enB (M 40 0) (M 40 1) (Sb t r0 c0 1 J) 0))), (11, zI (gr t r0 c0 1 J)), (10, zI (J : Int)), (9, zI (cnS t r0 c0 1 J)), (8, zI (stS t r0 c0 1 wr wc J)), (7, zR 43), (0, zR 38), (1, zR 40), (2, zI r0), (3, zI c0), (4, zI 1), (5, zI wr), (6, zI wc)]) hc rfl (Nat.le_of_ble_eq_true rfl) dL_spread_326 ?_
      refine z_ald (pc := 328) hc 8 rfl dL_spread_328 ?_
      refine z_iconst (pc := 329) hc 0 dL_spread_329 ?_
      refine z_iald (pc := 330) hc (by decide) rfl rfl (by decide) (by omega) dL_spread_330 ?_
      show zJW X 331 [(13, zI (-1)), (12, zI (zbz (enB (M 40 0) (M 40 1) (Sb t r0 c0 1 J) 0))), (11, zI (gr t r0 c0 1 J)), (10, zI (J : Int)), (9, zI (cnS t r0 c0 1 J)), (8, zI (stS t r0 c0 1 wr wc J)), (7, zR 43), (0, zR 38), (1, zR 40), (2, zI r0), (3, zI c0), (4, zI 1), (5, zI wr), (6, zI wc)] [zI (M 40 0)] (hM M (Sb t r0 c0 1 J) (Bj t r0 c0 1 M J))
      refine z_iconst (pc := 331) hc 1 dL_spread_331 ?_
      refine z_isub (pc := 332) hc dL_spread_332 ?_
      refine z_isw (pc := 333) (lv' := [(14, zI ((M 40 0) - 1)), (13, zI (-1)), (12, zI (zbz (enB (M 40 0) (M 40 1) (Sb t r0 c0 1 J) 0))), (11, zI (gr t r0 c0 1 J)), (10, zI (J : Int)), (9, zI (cnS t r0 c0 1 J)), (8, zI (stS t r0 c0 1 wr wc J)), (7, zR 43), (0, zR 38), (1, zR 40), (2, zI r0), (3, zI c0), (4, zI 1), (5, zI wr), (6, zI wc)]) hc rfl (Nat.le_of_ble_eq_true rfl) dL_spread_333 ?_
      refine z_for ((M 40 0).toNat) (fun i335 => [(14, zI (M 40 0 - 1 - (i335 : Int))), (13, zI (zrep (foO (M 40 0) (M 40 1) (Sb t r0 c0 1 J)) i335 (-1))), (12, zI (zbz (enB (M 40 0) (M 40 1) (Sb t r0 c0 1 J) i335))), (11, zI (gr t r0 c0 1 J)), (10, zI (J : Int)), (9, zI (cnS t r0 c0 1 J)), (8, zI (stS t r0 c0 1 wr wc J)), (7, zR 43), (0, zR 38), (1, zR 40), (2, zI r0), (3, zI c0), (4, zI 1), (5, zI wr), (6, zI wc)]) (fun i335 => (hM M (Sb t r0 c0 1 J) (Bj t r0 c0 1 M J))) (by rw [zrep_0, show M 40 0 - 1 - ((0 : Nat) : Int) = M 40 0 - 1 from Int.sub_zero _]) (by rfl) ?_ (fun i335 hi335 ih335 => ?_)
      · show zJW X 335 [(14, zI (M 40 0 - 1 - (((M 40 0).toNat) : Int))), (13, zI (zrep (foO (M 40 0) (M 40 1) (Sb t r0 c0 1 J)) ((M 40 0).toNat) (-1))), (12, zI (zbz (enB (M 40 0) (M 40 1) (Sb t r0 c0 1 J) ((M 40 0).toNat)))), (11, zI (gr t r0 c0 1 J)), (10, zI (J : Int)), (9, zI (cnS t r0 c0 1 J)), (8, zI (stS t r0 c0 1 wr wc J)), (7, zR 43), (0, zR 38), (1, zR 40), (2, zI r0), (3, zI c0), (4, zI 1), (5, zI wr), (6, zI wc)] [] (hM M (Sb t r0 c0 1 J) (Bj t r0 c0 1 M J))
        refine z_ilw (pc := 335) hc 0 rfl dL_spread_335 ?_
        refine z_ilt (pc := 337) (tgt := 419) hc (by omega) (by decide) dL_spread_337 (fun h337 => ?_) (fun h337 => ?_)
        · show zJW X 419 [(14, zI (M 40 0 - 1 - (((M 40 0).toNat) : Int))), (13, zI (zrep (foO (M 40 0) (M 40 1) (Sb t r0 c0 1 J)) ((M 40 0).toNat) (-1))), (12, zI (zbz (enB (M 40 0) (M 40 1) (Sb t r0 c0 1 J) ((M 40 0).toNat)))), (11, zI (gr t r0 c0 1 J)), (10, zI (J : Int)), (9, zI (cnS t r0 c0 1 J)), (8, zI (stS t r0 c0 1 wr wc J)), (7, zR 43), (0, zR 38), (1, zR 40), (2, zI r0), (3, zI c0), (4, zI 1), (5, zI wr), (6, zI wc)] [] (hM M (Sb t r0 c0 1 J) (Bj t r0 c0 1 M J))
          refine z_ilw (pc := 419) hc 13 rfl dL_spread_419 ?_
          refine z_ild (pc := 421) hc 10 rfl dL_spread_421 ?_
          refine z_cne (pc := 422) (tgt := 448) hc (by omega) (by decide) dL_spread_422 (fun h422 => ?_) (fun h422 => ?_)
          · show zJW X 448 [(14, zI (M 40 0 - 1 - (((M 40 0).toNat) : Int))), (13, zI (zrep (foO (M 40 0) (M 40 1) (Sb t r0 c0 1 J)) ((M 40 0).toNat) (-1))), (12, zI (zbz (enB (M 40 0) (M 40 1) (Sb t r0 c0 1 J) ((M 40 0).toNat)))), (11, zI (gr t r0 c0 1 J)), (10, zI (J : Int)), (9, zI (cnS t r0 c0 1 J)), (8, zI (stS t r0 c0 1 wr wc J)), (7, zR 43), (0, zR 38), (1, zR 40), (2, zI r0), (3, zI c0), (4, zI 1), (5, zI wr), (6, zI wc)] [] (hM M (Sb t r0 c0 1 J) (Bj t r0 c0 1 M J))
            refine z_ilw (pc := 448) hc 6 rfl dL_spread_448 ?_
            exact z_zretA (pc := 450) (M0 := M) hc he ha ⟨by omega, by omega⟩ rfl rfl dL_spread_450 (fun j h0 h1 => by rw [hM_lo (by decide)]; exact hX32 j h0 h1) (fun i hi => hM_lo hi) ⟨congrArg some (by first | exact spR_2 hO hi0 hJ1 hgz (fun h => h428 h.2) | exact spR_2 hO hi0 hJ1 hgz (fun h => h422 h.1)), rfl⟩
          · show zJW X 425 [(14, zI (M 40 0 - 1 - (((M 40 0).toNat) : Int))), (13, zI (zrep (foO (M 40 0) (M 40 1) (Sb t r0 c0 1 J)) ((M 40 0).toNat) (-1))), (12, zI (zbz (enB (M 40 0) (M 40 1) (Sb t r0 c0 1 J) ((M 40 0).toNat)))), (11, zI (gr t r0 c0 1 J)), (10, zI (J : Int)), (9, zI (cnS t r0 c0 1 J)), (8, zI (stS t r0 c0 1 wr wc J)), (7, zR 43), (0, zR 38), (1, zR 40), (2, zI r0), (3, zI c0), (4, zI 1), (5, zI wr), (6, zI wc)] [] (hM M (Sb t r0 c0 1 J) (Bj t r0 c0 1 M J))
            refine z_ilw (pc := 425) hc 14 rfl dL_spread_425 ?_
            refine z_ild (pc := 427) hc 11 rfl dL_spread_427 ?_
            refine z_cne (pc := 428) (tgt := 448) hc (by omega) (by decide) dL_spread_428 (fun h428 => ?_) (fun h428 => ?_)
            · show zJW X 448 [(14, zI (M 40 0 - 1 - (((M 40 0).toNat) : Int))), (13, zI (zrep (foO (M 40 0) (M 40 1) (Sb t r0 c0 1 J)) ((M 40 0).toNat) (-1))), (12, zI (zbz (enB (M 40 0) (M 40 1) (Sb t r0 c0 1 J) ((M 40 0).toNat)))), (11, zI (gr t r0 c0 1 J)), (10, zI (J : Int)), (9, zI (cnS t r0 c0 1 J)), (8, zI (stS t r0 c0 1 wr wc J)), (7, zR 43), (0, zR 38), (1, zR 40), (2, zI r0), (3, zI c0), (4, zI 1), (5, zI wr), (6, zI wc)] [] (hM M (Sb t r0 c0 1 J) (Bj t r0 c0 1 M J))
              refine z_ilw (pc := 448) hc 6 rfl dL_spread_448 ?_
              exact z_zretA (pc := 450) (M0 := M) hc he ha ⟨by omega, by omega⟩ rfl rfl dL_spread_450 (fun j h0 h1 => by rw [hM_lo (by decide)]; exact hX32 j h0 h1) (fun i hi => hM_lo hi) ⟨congrArg some (by first | exact spR_2 hO hi0 hJ1 hgz (fun h => h428 h.2) | exact spR_2 hO hi0 hJ1 hgz (fun h => h422 h.1)), rfl⟩
            · show zJW X 431 [(14, zI (M 40 0 - 1 - (((M 40 0).toNat) : Int))), (13, zI (zrep (foO (M 40 0) (M 40 1) (Sb t r0 c0 1 J)) ((M 40 0).toNat) (-1))), (12, zI (zbz (enB (M 40 0) (M 40 1) (Sb t r0 c0 1 J) ((M 40 0).toNat)))), (11, zI (gr t r0 c0 1 J)), (10, zI (J : Int)), (9, zI (cnS t r0 c0 1 J)), (8, zI (stS t r0 c0 1 wr wc J)), (7, zR 43), (0, zR 38), (1, zR 40), (2, zI r0), (3, zI c0), (4, zI 1), (5, zI wr), (6, zI wc)] [] (hM M (Sb t r0 c0 1 J) (Bj t r0 c0 1 M J))
              refine z_sipush (pc := 431) hc 10000 (by decide) dL_spread_431 ?_
              refine z_ilw (pc := 434) hc 5 rfl dL_spread_434 ?_
              refine z_imul (pc := 436) hc dL_spread_436 ?_
              refine z_iconst (pc := 437) hc 2 dL_spread_437 ?_
              refine z_ilw (pc := 438) hc 1 rfl dL_spread_438 ?_
              refine z_imul (pc := 440) hc dL_spread_440 ?_
              refine z_iadd (pc := 441) hc dL_spread_441 ?_
              refine z_ilw (pc := 442) hc 2 rfl dL_spread_442 ?_
              refine z_iadd (pc := 444) hc dL_spread_444 ?_
              refine z_goto (pc := 445) (tgt := 450) hc (by decide) dL_spread_445 ?_
              exact z_zretA (pc := 450) (M0 := M) hc he ha ⟨by omega, by omega⟩ rfl rfl dL_spread_450 (fun j h0 h1 => by rw [hM_lo (by decide)]; exact hX32 j h0 h1) (fun i hi => hM_lo hi) ⟨congrArg some (spR_1 hO hi0 hJ1 hgz hT1 hT2 ⟨h422, h428⟩), rfl⟩
        · exfalso; omega
      · show zJW X 335 [(14, zI (M 40 0 - 1 - (i335 : Int))), (13, zI (zrep (foO (M 40 0) (M 40 1) (Sb t r0 c0 1 J)) i335 (-1))), (12, zI (zbz (enB (M 40 0) (M 40 1) (Sb t r0 c0 1 J) i335))), (11, zI (gr t r0 c0 1 J)), (10, zI (J : Int)), (9, zI (cnS t r0 c0 1 J)), (8, zI (stS t r0 c0 1 wr wc J)), (7, zR 43), (0, zR 38), (1, zR 40), (2, zI r0), (3, zI c0), (4, zI 1), (5, zI wr), (6, zI wc)] [] (hM M (Sb t r0 c0 1 J) (Bj t r0 c0 1 M J))
        refine z_ilw (pc := 335) hc 0 rfl dL_spread_335 ?_
        refine z_ilt (pc := 337) (tgt := 419) hc (by omega) (by decide) dL_spread_337 (fun h337 => ?_) (fun h337 => ?_)
        · exfalso; omega
        · show zJW X 340 [(14, zI (M 40 0 - 1 - (i335 : Int))), (13, zI (zrep (foO (M 40 0) (M 40 1) (Sb t r0 c0 1 J)) i335 (-1))), (12, zI (zbz (enB (M 40 0) (M 40 1) (Sb t r0 c0 1 J) i335))), (11, zI (gr t r0 c0 1 J)), (10, zI (J : Int)), (9, zI (cnS t r0 c0 1 J)), (8, zI (stS t r0 c0 1 wr wc J)), (7, zR 43), (0, zR 38), (1, zR 40), (2, zI r0), (3, zI c0), (4, zI 1), (5, zI wr), (6, zI wc)] [] (hM M (Sb t r0 c0 1 J) (Bj t r0 c0 1 M J))
          refine z_ilw (pc := 340) hc 2 rfl dL_spread_340 ?_
          refine z_alw (pc := 342) hc 7 rfl dL_spread_342 ?_
          refine z_ilw (pc := 344) hc 0 rfl dL_spread_344 ?_
          refine z_iald (pc := 346) hc (by decide) rfl rfl (by decide) (by omega) dL_spread_346 ?_
          refine z_iconst (pc := 347) hc 1 dL_spread_347 ?_
          refine z_iand (pc := 348) hc dL_spread_348 ?_
          refine zJW_eq (st' := [zI (zbz ((Sb t r0 c0 1 J) (M 40 0 - 1 - (i335 : Int)) 0)), zI (zbz (enB (M 40 0) (M 40 1) (Sb t r0 c0 1 J) i335))]) rfl (by rw [hM_b0 (by omega)]) rfl ?_
          refine z_alw (pc := 349) hc 7 rfl dL_spread_349 ?_
          refine z_ilw (pc := 351) hc 0 rfl dL_spread_351 ?_
          refine z_iald (pc := 353) hc (by decide) rfl rfl (by decide) (by omega) dL_spread_353 ?_
          refine z_ald (pc := 354) hc 9 rfl dL_spread_354 ?_
          refine z_iconst (pc := 355) hc 1 dL_spread_355 ?_
          refine z_iald (pc := 356) hc (by decide) rfl rfl (by decide) (by omega) dL_spread_356 ?_
          show zJW X 357 [(14, zI (M 40 0 - 1 - (i335 : Int))), (13, zI (zrep (foO (M 40 0) (M 40 1) (Sb t r0 c0 1 J)) i335 (-1))), (12, zI (zbz (enB (M 40 0) (M 40 1) (Sb t r0 c0 1 J) i335))), (11, zI (gr t r0 c0 1 J)), (10, zI (J : Int)), (9, zI (cnS t r0 c0 1 J)), (8, zI (stS t r0 c0 1 wr wc J)), (7, zR 43), (0, zR 38), (1, zR 40), (2, zI r0), (3, zI c0), (4, zI 1), (5, zI wr), (6, zI wc)] [zI (M 40 1), zI ((hM M (Sb t r0 c0 1 J) (Bj t r0 c0 1 M J)) 43 (M 40 0 - 1 - (i335 : Int))), zI (zbz ((Sb t r0 c0 1 J) (M 40 0 - 1 - (i335 : Int)) 0)), zI (zbz (enB (M 40 0) (M 40 1) (Sb t r0 c0 1 J) i335))] (hM M (Sb t r0 c0 1 J) (Bj t r0 c0 1 M J))
          refine z_iconst (pc := 357) hc 1 dL_spread_357 ?_
          refine z_isub (pc := 358) hc dL_spread_358 ?_
          refine z_ishr (pc := 359) hc dL_spread_359 ?_
          refine z_iconst (pc := 360) hc 1 dL_spread_360 ?_
          refine z_iand (pc := 361) hc dL_spread_361 ?_
          refine zJW_eq (st' := [zI (zbz ((Sb t r0 c0 1 J) (M 40 0 - 1 - (i335 : Int)) (M 40 1 - 1))), zI (zbz ((Sb t r0 c0 1 J) (M 40 0 - 1 - (i335 : Int)) 0)), zI (zbz (enB (M 40 0) (M 40 1) (Sb t r0 c0 1 J) i335))]) rfl (by rw [hM_bit (by omega) (by omega)]) rfl ?_
          refine z_ior (pc := 362) hc dL_spread_362 ?_
          refine z_ior (pc := 363) hc dL_spread_363 ?_
          refine zJW_eq (st' := [zI (zbz (enB (M 40 0) (M 40 1) (Sb t r0 c0 1 J) (i335 + 1)))]) rfl (by rw [zor_b3]; rfl) rfl ?_
          refine z_isw (pc := 364) (lv' := [(12, zI (zbz (enB (M 40 0) (M 40 1) (Sb t r0 c0 1 J) (i335 + 1)))), (14, zI (M 40 0 - 1 - (i335 : Int))), (13, zI (zrep (foO (M 40 0) (M 40 1) (Sb t r0 c0 1 J)) i335 (-1))), (11, zI (gr t r0 c0 1 J)), (10, zI (J : Int)), (9, zI (cnS t r0 c0 1 J)), (8, zI (stS t r0 c0 1 wr wc J)), (7, zR 43), (0, zR 38), (1, zR 40), (2, zI r0), (3, zI c0), (4, zI 1), (5, zI wr), (6, zI wc)]) hc rfl (Nat.le_of_ble_eq_true rfl) dL_spread_364 ?_
          refine z_ald (pc := 366) hc 9 rfl dL_spread_366 ?_
          refine z_iconst (pc := 367) hc 1 dL_spread_367 ?_
          refine z_iald (pc := 368) hc (by decide) rfl rfl (by decide) (by omega) dL_spread_368 ?_
          show zJW X 369 [(12, zI (zbz (enB (M 40 0) (M 40 1) (Sb t r0 c0 1 J) (i335 + 1)))), (14, zI (M 40 0 - 1 - (i335 : Int))), (13, zI (zrep (foO (M 40 0) (M 40 1) (Sb t r0 c0 1 J)) i335 (-1))), (11, zI (gr t r0 c0 1 J)), (10, zI (J : Int)), (9, zI (cnS t r0 c0 1 J)), (8, zI (stS t r0 c0 1 wr wc J)), (7, zR 43), (0, zR 38), (1, zR 40), (2, zI r0), (3, zI c0), (4, zI 1), (5, zI wr), (6, zI wc)] [zI (M 40 1)] (hM M (Sb t r0 c0 1 J) (Bj t r0 c0 1 M J))
          refine z_iconst (pc := 369) hc 1 dL_spread_369 ?_
          refine z_isub (pc := 370) hc dL_spread_370 ?_
          refine z_isw (pc := 371) (lv' := [(15, zI ((M 40 1) - 1)), (12, zI (zbz (enB (M 40 0) (M 40 1) (Sb t r0 c0 1 J) (i335 + 1)))), (14, zI (M 40 0 - 1 - (i335 : Int))), (13, zI (zrep (foO (M 40 0) (M 40 1) (Sb t r0 c0 1 J)) i335 (-1))), (11, zI (gr t r0 c0 1 J)), (10, zI (J : Int)), (9, zI (cnS t r0 c0 1 J)), (8, zI (stS t r0 c0 1 wr wc J)), (7, zR 43), (0, zR 38), (1, zR 40), (2, zI r0), (3, zI c0), (4, zI 1), (5, zI wr), (6, zI wc)]) hc rfl (Nat.le_of_ble_eq_true rfl) dL_spread_371 ?_
          refine z_for ((M 40 1).toNat) (fun i373 => [(15, zI (M 40 1 - 1 - (i373 : Int))), (12, zI (zbz (enB (M 40 0) (M 40 1) (Sb t r0 c0 1 J) (i335 + 1)))), (14, zI (M 40 0 - 1 - (i335 : Int))), (13, zI (zrep (foI (M 40 0) (M 40 1) (Sb t r0 c0 1 J) i335) i373 (zrep (foO (M 40 0) (M 40 1) (Sb t r0 c0 1 J)) i335 (-1)))), (11, zI (gr t r0 c0 1 J)), (10, zI (J : Int)), (9, zI (cnS t r0 c0 1 J)), (8, zI (stS t r0 c0 1 wr wc J)), (7, zR 43), (0, zR 38), (1, zR 40), (2, zI r0), (3, zI c0), (4, zI 1), (5, zI wr), (6, zI wc)]) (fun i373 => (hM M (Sb t r0 c0 1 J) (Bj t r0 c0 1 M J))) (by rw [zrep_0, show M 40 1 - 1 - ((0 : Nat) : Int) = M 40 1 - 1 from Int.sub_zero _]) (by rfl) ?_ (fun i373 hi373 ih373 => ?_)
          · show zJW X 373 [(15, zI (M 40 1 - 1 - (((M 40 1).toNat) : Int))), (12, zI (zbz (enB (M 40 0) (M 40 1) (Sb t r0 c0 1 J) (i335 + 1)))), (14, zI (M 40 0 - 1 - (i335 : Int))), (13, zI (zrep (foI (M 40 0) (M 40 1) (Sb t r0 c0 1 J) i335) ((M 40 1).toNat) (zrep (foO (M 40 0) (M 40 1) (Sb t r0 c0 1 J)) i335 (-1)))), (11, zI (gr t r0 c0 1 J)), (10, zI (J : Int)), (9, zI (cnS t r0 c0 1 J)), (8, zI (stS t r0 c0 1 wr wc J)), (7, zR 43), (0, zR 38), (1, zR 40), (2, zI r0), (3, zI c0), (4, zI 1), (5, zI wr), (6, zI wc)] [] (hM M (Sb t r0 c0 1 J) (Bj t r0 c0 1 M J))
            refine z_ilw (pc := 373) hc 0 rfl dL_spread_373 ?_
            refine z_ilt (pc := 375) (tgt := 413) hc (by omega) (by decide) dL_spread_375 (fun h375 => ?_) (fun h375 => ?_)
            · show zJW X 413 [(15, zI (M 40 1 - 1 - (((M 40 1).toNat) : Int))), (12, zI (zbz (enB (M 40 0) (M 40 1) (Sb t r0 c0 1 J) (i335 + 1)))), (14, zI (M 40 0 - 1 - (i335 : Int))), (13, zI (zrep (foI (M 40 0) (M 40 1) (Sb t r0 c0 1 J) i335) ((M 40 1).toNat) (zrep (foO (M 40 0) (M 40 1) (Sb t r0 c0 1 J)) i335 (-1)))), (11, zI (gr t r0 c0 1 J)), (10, zI (J : Int)), (9, zI (cnS t r0 c0 1 J)), (8, zI (stS t r0 c0 1 wr wc J)), (7, zR 43), (0, zR 38), (1, zR 40), (2, zI r0), (3, zI c0), (4, zI 1), (5, zI wr), (6, zI wc)] [] (hM M (Sb t r0 c0 1 J) (Bj t r0 c0 1 M J))
              refine z_iinc (pc := 413) (lv' := [(14, zI ((M 40 0 - 1 - (i335 : Int)) + (-1))), (15, zI (M 40 1 - 1 - (((M 40 1).toNat) : Int))), (12, zI (zbz (enB (M 40 0) (M 40 1) (Sb t r0 c0 1 J) (i335 + 1)))), (13, zI (zrep (foI (M 40 0) (M 40 1) (Sb t r0 c0 1 J) i335) ((M 40 1).toNat) (zrep (foO (M 40 0) (M 40 1) (Sb t r0 c0 1 J)) i335 (-1)))), (11, zI (gr t r0 c0 1 J)), (10, zI (J : Int)), (9, zI (cnS t r0 c0 1 J)), (8, zI (stS t r0 c0 1 wr wc J)), (7, zR 43), (0, zR 38), (1, zR 40), (2, zI r0), (3, zI c0), (4, zI 1), (5, zI wr), (6, zI wc)]) hc 2 rfl rfl (Nat.le_of_ble_eq_true rfl) dL_spread_413 ?_
              refine z_goto (pc := 416) (tgt := 335) hc (by decide) dL_spread_416 ?_
              refine zJW_sub (lv' := [(14, zI ((M 40 0 - 1 - (i335 : Int)) + (-1))), (13, zI (zrep (foI (M 40 0) (M 40 1) (Sb t r0 c0 1 J) i335) ((M 40 1).toNat) (zrep (foO (M 40 0) (M 40 1) (Sb t r0 c0 1 J)) i335 (-1)))), (12, zI (zbz (enB (M 40 0) (M 40 1) (Sb t r0 c0 1 J) (i335 + 1)))), (11, zI (gr t r0 c0 1 J)), (10, zI (J : Int)), (9, zI (cnS t r0 c0 1 J)), (8, zI (stS t r0 c0 1 wr wc J)), (7, zR 43), (0, zR 38), (1, zR 40), (2, zI r0), (3, zI c0), (4, zI 1), (5, zI wr), (6, zI wc)]) [0, 3, 2, 4, 5, 6, 7, 8, 9, 10, 11, 12, 13, 14, 15] rfl ?_
              exact zJW_eq (by rw [show M 40 0 - 1 - ((i335 + 1 : Nat) : Int) = M 40 0 - 1 - (i335 : Int) + (-1) by omega, foO_s]) rfl (by rfl) ih335
            · exfalso; omega
          · show zJW X 373 [(15, zI (M 40 1 - 1 - (i373 : Int))), (12, zI (zbz (enB (M 40 0) (M 40 1) (Sb t r0 c0 1 J) (i335 + 1)))), (14, zI (M 40 0 - 1 - (i335 : Int))), (13, zI (zrep (foI (M 40 0) (M 40 1) (Sb t r0 c0 1 J) i335) i373 (zrep (foO (M 40 0) (M 40 1) (Sb t r0 c0 1 J)) i335 (-1)))), (11, zI (gr t r0 c0 1 J)), (10, zI (J : Int)), (9, zI (cnS t r0 c0 1 J)), (8, zI (stS t r0 c0 1 wr wc J)), (7, zR 43), (0, zR 38), (1, zR 40), (2, zI r0), (3, zI c0), (4, zI 1), (5, zI wr), (6, zI wc)] [] (hM M (Sb t r0 c0 1 J) (Bj t r0 c0 1 M J))
            have hsb := zbz_bd ((Sb t r0 c0 1 J) (M 40 0 - 1 - (i335 : Int)) (M 40 1 - 1 - (i373 : Int)))
            have e13 : zrep (foI (M 40 0) (M 40 1) (Sb t r0 c0 1 J) i335) (i373 + 1) (zrep (foO (M 40 0) (M 40 1) (Sb t r0 c0 1 J)) i335 (-1)) = if (Sb t r0 c0 1 J) (M 40 0 - 1 - (i335 : Int)) (M 40 1 - 1 - (i373 : Int)) = true then 100 * (M 40 0 - 1 - (i335 : Int)) + (M 40 1 - 1 - (i373 : Int)) else zrep (foI (M 40 0) (M 40 1) (Sb t r0 c0 1 J) i335) i373 (zrep (foO (M 40 0) (M 40 1) (Sb t r0 c0 1 J)) i335 (-1)) := foI_s i373 _
            refine z_ilw (pc := 373) hc 0 rfl dL_spread_373 ?_
            refine z_ilt (pc := 375) (tgt := 413) hc (by omega) (by decide) dL_spread_375 (fun h375 => ?_) (fun h375 => ?_)
            · exfalso; omega
            · show zJW X 378 [(15, zI (M 40 1 - 1 - (i373 : Int))), (12, zI (zbz (enB (M 40 0) (M 40 1) (Sb t r0 c0 1 J) (i335 + 1)))), (14, zI (M 40 0 - 1 - (i335 : Int))), (13, zI (zrep (foI (M 40 0) (M 40 1) (Sb t r0 c0 1 J) i335) i373 (zrep (foO (M 40 0) (M 40 1) (Sb t r0 c0 1 J)) i335 (-1)))), (11, zI (gr t r0 c0 1 J)), (10, zI (J : Int)), (9, zI (cnS t r0 c0 1 J)), (8, zI (stS t r0 c0 1 wr wc J)), (7, zR 43), (0, zR 38), (1, zR 40), (2, zI r0), (3, zI c0), (4, zI 1), (5, zI wr), (6, zI wc)] [] (hM M (Sb t r0 c0 1 J) (Bj t r0 c0 1 M J))
              refine z_alw (pc := 378) hc 8 rfl dL_spread_378 ?_
              refine z_ilw (pc := 380) hc 2 rfl dL_spread_380 ?_
              refine z_iald (pc := 382) hc (by decide) rfl rfl (by decide) (by omega) dL_spread_382 ?_
              refine z_ilw (pc := 383) hc 0 rfl dL_spread_383 ?_
              refine z_ishr (pc := 385) hc dL_spread_385 ?_
              refine z_iconst (pc := 386) hc 1 dL_spread_386 ?_
              refine z_iand (pc := 387) hc dL_spread_387 ?_
              refine zJW_eq (st' := [zI (zbz ((Sb t r0 c0 1 J) (M 40 0 - 1 - (i335 : Int)) (M 40 1 - 1 - (i373 : Int))))]) rfl (by rw [hM_bit (by omega) (by omega)]) rfl ?_
              refine z_iconst (pc := 388) hc 1 dL_spread_388 ?_
              refine z_cne (pc := 389) (tgt := 403) hc (by omega) (by decide) dL_spread_389 (fun h389 => ?_) (fun h389 => ?_)
              · show zJW X 403 [(15, zI (M 40 1 - 1 - (i373 : Int))), (12, zI (zbz (enB (M 40 0) (M 40 1) (Sb t r0 c0 1 J) (i335 + 1)))), (14, zI (M 40 0 - 1 - (i335 : Int))), (13, zI (zrep (foI (M 40 0) (M 40 1) (Sb t r0 c0 1 J) i335) i373 (zrep (foO (M 40 0) (M 40 1) (Sb t r0 c0 1 J)) i335 (-1)))), (11, zI (gr t r0 c0 1 J)), (10, zI (J : Int)), (9, zI (cnS t r0 c0 1 J)), (8, zI (stS t r0 c0 1 wr wc J)), (7, zR 43), (0, zR 38), (1, zR 40), (2, zI r0), (3, zI c0), (4, zI 1), (5, zI wr), (6, zI wc)] [] (hM M (Sb t r0 c0 1 J) (Bj t r0 c0 1 M J))
                refine z_ilw (pc := 403) hc 3 rfl dL_spread_403 ?_
                refine z_isw (pc := 405) (lv' := [(13, zI (zrep (foI (M 40 0) (M 40 1) (Sb t r0 c0 1 J) i335) i373 (zrep (foO (M 40 0) (M 40 1) (Sb t r0 c0 1 J)) i335 (-1)))), (15, zI (M 40 1 - 1 - (i373 : Int))), (12, zI (zbz (enB (M 40 0) (M 40 1) (Sb t r0 c0 1 J) (i335 + 1)))), (14, zI (M 40 0 - 1 - (i335 : Int))), (11, zI (gr t r0 c0 1 J)), (10, zI (J : Int)), (9, zI (cnS t r0 c0 1 J)), (8, zI (stS t r0 c0 1 wr wc J)), (7, zR 43), (0, zR 38), (1, zR 40), (2, zI r0), (3, zI c0), (4, zI 1), (5, zI wr), (6, zI wc)]) hc rfl (Nat.le_of_ble_eq_true rfl) dL_spread_405 ?_
                refine z_iinc (pc := 407) (lv' := [(15, zI ((M 40 1 - 1 - (i373 : Int)) + (-1))), (13, zI (zrep (foI (M 40 0) (M 40 1) (Sb t r0 c0 1 J) i335) i373 (zrep (foO (M 40 0) (M 40 1) (Sb t r0 c0 1 J)) i335 (-1)))), (12, zI (zbz (enB (M 40 0) (M 40 1) (Sb t r0 c0 1 J) (i335 + 1)))), (14, zI (M 40 0 - 1 - (i335 : Int))), (11, zI (gr t r0 c0 1 J)), (10, zI (J : Int)), (9, zI (cnS t r0 c0 1 J)), (8, zI (stS t r0 c0 1 wr wc J)), (7, zR 43), (0, zR 38), (1, zR 40), (2, zI r0), (3, zI c0), (4, zI 1), (5, zI wr), (6, zI wc)]) hc 1 rfl rfl (Nat.le_of_ble_eq_true rfl) dL_spread_407 ?_
                refine z_goto (pc := 410) (tgt := 373) hc (by decide) dL_spread_410 ?_
                refine zJW_sub (lv' := [(15, zI ((M 40 1 - 1 - (i373 : Int)) + (-1))), (12, zI (zbz (enB (M 40 0) (M 40 1) (Sb t r0 c0 1 J) (i335 + 1)))), (14, zI (M 40 0 - 1 - (i335 : Int))), (13, zI (zrep (foI (M 40 0) (M 40 1) (Sb t r0 c0 1 J) i335) i373 (zrep (foO (M 40 0) (M 40 1) (Sb t r0 c0 1 J)) i335 (-1)))), (11, zI (gr t r0 c0 1 J)), (10, zI (J : Int)), (9, zI (cnS t r0 c0 1 J)), (8, zI (stS t r0 c0 1 wr wc J)), (7, zR 43), (0, zR 38), (1, zR 40), (2, zI r0), (3, zI c0), (4, zI 1), (5, zI wr), (6, zI wc)]) [0, 2, 3, 1, 4, 5, 6, 7, 8, 9, 10, 11, 12, 13, 14, 15] rfl ?_
                exact zJW_eq (by rw [show M 40 1 - 1 - ((i373 + 1 : Nat) : Int) = M 40 1 - 1 - (i373 : Int) + (-1) by omega, e13]; first | (rw [if_pos (p4_b1 h389)] <;> rfl) | (rw [if_neg (fun h => p4_b0 h389 h)] <;> rfl)) rfl (by rfl) ih373
              · show zJW X 392 [(15, zI (M 40 1 - 1 - (i373 : Int))), (12, zI (zbz (enB (M 40 0) (M 40 1) (Sb t r0 c0 1 J) (i335 + 1)))), (14, zI (M 40 0 - 1 - (i335 : Int))), (13, zI (zrep (foI (M 40 0) (M 40 1) (Sb t r0 c0 1 J) i335) i373 (zrep (foO (M 40 0) (M 40 1) (Sb t r0 c0 1 J)) i335 (-1)))), (11, zI (gr t r0 c0 1 J)), (10, zI (J : Int)), (9, zI (cnS t r0 c0 1 J)), (8, zI (stS t r0 c0 1 wr wc J)), (7, zR 43), (0, zR 38), (1, zR 40), (2, zI r0), (3, zI c0), (4, zI 1), (5, zI wr), (6, zI wc)] [] (hM M (Sb t r0 c0 1 J) (Bj t r0 c0 1 M J))
                refine z_bipush (pc := 392) hc 100 (by decide) dL_spread_392 ?_
                refine z_ilw (pc := 394) hc 2 rfl dL_spread_394 ?_
                refine z_imul (pc := 396) hc dL_spread_396 ?_
                refine z_ilw (pc := 397) hc 0 rfl dL_spread_397 ?_
                refine z_iadd (pc := 399) hc dL_spread_399 ?_
                refine z_goto (pc := 400) (tgt := 405) hc (by decide) dL_spread_400 ?_
                refine z_isw (pc := 405) (lv' := [(13, zI ((100 * (M 40 0 - 1 - (i335 : Int))) + (M 40 1 - 1 - (i373 : Int)))), (15, zI (M 40 1 - 1 - (i373 : Int))), (12, zI (zbz (enB (M 40 0) (M 40 1) (Sb t r0 c0 1 J) (i335 + 1)))), (14, zI (M 40 0 - 1 - (i335 : Int))), (11, zI (gr t r0 c0 1 J)), (10, zI (J : Int)), (9, zI (cnS t r0 c0 1 J)), (8, zI (stS t r0 c0 1 wr wc J)), (7, zR 43), (0, zR 38), (1, zR 40), (2, zI r0), (3, zI c0), (4, zI 1), (5, zI wr), (6, zI wc)]) hc rfl (Nat.le_of_ble_eq_true rfl) dL_spread_405 ?_
                refine z_iinc (pc := 407) (lv' := [(15, zI ((M 40 1 - 1 - (i373 : Int)) + (-1))), (13, zI ((100 * (M 40 0 - 1 - (i335 : Int))) + (M 40 1 - 1 - (i373 : Int)))), (12, zI (zbz (enB (M 40 0) (M 40 1) (Sb t r0 c0 1 J) (i335 + 1)))), (14, zI (M 40 0 - 1 - (i335 : Int))), (11, zI (gr t r0 c0 1 J)), (10, zI (J : Int)), (9, zI (cnS t r0 c0 1 J)), (8, zI (stS t r0 c0 1 wr wc J)), (7, zR 43), (0, zR 38), (1, zR 40), (2, zI r0), (3, zI c0), (4, zI 1), (5, zI wr), (6, zI wc)]) hc 1 rfl rfl (Nat.le_of_ble_eq_true rfl) dL_spread_407 ?_
                refine z_goto (pc := 410) (tgt := 373) hc (by decide) dL_spread_410 ?_
                refine zJW_sub (lv' := [(15, zI ((M 40 1 - 1 - (i373 : Int)) + (-1))), (12, zI (zbz (enB (M 40 0) (M 40 1) (Sb t r0 c0 1 J) (i335 + 1)))), (14, zI (M 40 0 - 1 - (i335 : Int))), (13, zI ((100 * (M 40 0 - 1 - (i335 : Int))) + (M 40 1 - 1 - (i373 : Int)))), (11, zI (gr t r0 c0 1 J)), (10, zI (J : Int)), (9, zI (cnS t r0 c0 1 J)), (8, zI (stS t r0 c0 1 wr wc J)), (7, zR 43), (0, zR 38), (1, zR 40), (2, zI r0), (3, zI c0), (4, zI 1), (5, zI wr), (6, zI wc)]) [0, 2, 3, 1, 4, 5, 6, 7, 8, 9, 10, 11, 12, 13, 14, 15] rfl ?_
                exact zJW_eq (by rw [show M 40 1 - 1 - ((i373 + 1 : Nat) : Int) = M 40 1 - 1 - (i373 : Int) + (-1) by omega, e13]; first | (rw [if_pos (p4_b1 h389)] <;> rfl) | (rw [if_neg (fun h => p4_b0 h389 h)] <;> rfl)) rfl (by rfl) ih373
    refine z_ine (pc := 304) (tgt := 318) hc (by omega) (by decide) dL_spread_304 (fun h304 => ?_) (fun h304 => ?_)
    · show zJW X 318 [(11, zI (gr t r0 c0 1 J)), (10, zI (J : Int)), (9, zI (cnS t r0 c0 1 J)), (8, zI (stS t r0 c0 1 wr wc J)), (7, zR 43), (0, zR 38), (1, zR 40), (2, zI r0), (3, zI c0), (4, zI 1), (5, zI wr), (6, zI wc)] [] (hM M (Sb t r0 c0 1 J) (Bj t r0 c0 1 M J))
      refine z_iconst (pc := 318) hc 1 dL_spread_318 ?_
      refine z_goto (pc := 319) (tgt := 323) hc (by decide) dL_spread_319 ?_
      exact zJW_eq (by rfl) (by first | (rw [en_1 h304]; done) | (rw [en_3 h304 h315]; done) | (rw [en_2 h315]; done)) (by rfl) hJ323
    · show zJW X 307 [(11, zI (gr t r0 c0 1 J)), (10, zI (J : Int)), (9, zI (cnS t r0 c0 1 J)), (8, zI (stS t r0 c0 1 wr wc J)), (7, zR 43), (0, zR 38), (1, zR 40), (2, zI r0), (3, zI c0), (4, zI 1), (5, zI wr), (6, zI wc)] [] (hM M (Sb t r0 c0 1 J) (Bj t r0 c0 1 M J))
      refine z_alw (pc := 307) hc 4 rfl dL_spread_307 ?_
      refine z_ald (pc := 309) hc 6 rfl dL_spread_309 ?_
      refine z_iconst (pc := 310) hc 0 dL_spread_310 ?_
      refine z_iald (pc := 311) hc (by decide) rfl rfl (by decide) (by omega) dL_spread_311 ?_
      show zJW X 312 [(11, zI (gr t r0 c0 1 J)), (10, zI (J : Int)), (9, zI (cnS t r0 c0 1 J)), (8, zI (stS t r0 c0 1 wr wc J)), (7, zR 43), (0, zR 38), (1, zR 40), (2, zI r0), (3, zI c0), (4, zI 1), (5, zI wr), (6, zI wc)] [zI (M 40 0), zR 43] (hM M (Sb t r0 c0 1 J) (Bj t r0 c0 1 M J))
      refine z_iconst (pc := 312) hc 1 dL_spread_312 ?_
      refine z_isub (pc := 313) hc dL_spread_313 ?_
      refine z_iald (pc := 314) hc (by decide) rfl rfl (by decide) (by omega) dL_spread_314 ?_
      refine zJW_eq (st' := [zI (zmk (fun c : Nat => (Sb t r0 c0 1 J) (M 40 0 - 1) c) 12)]) rfl (by rw [hM_43 (by omega)]) rfl ?_
      refine z_ieq (pc := 315) (tgt := 322) hc (by omega) (by decide) dL_spread_315 (fun h315 => ?_) (fun h315 => ?_)
      · show zJW X 322 [(11, zI (gr t r0 c0 1 J)), (10, zI (J : Int)), (9, zI (cnS t r0 c0 1 J)), (8, zI (stS t r0 c0 1 wr wc J)), (7, zR 43), (0, zR 38), (1, zR 40), (2, zI r0), (3, zI c0), (4, zI 1), (5, zI wr), (6, zI wc)] [] (hM M (Sb t r0 c0 1 J) (Bj t r0 c0 1 M J))
        refine z_iconst (pc := 322) hc 0 dL_spread_322 ?_
        exact zJW_eq (by rfl) (by first | (rw [en_1 h304]; done) | (rw [en_3 h304 h315]; done) | (rw [en_2 h315]; done)) (by rfl) hJ323
      · show zJW X 318 [(11, zI (gr t r0 c0 1 J)), (10, zI (J : Int)), (9, zI (cnS t r0 c0 1 J)), (8, zI (stS t r0 c0 1 wr wc J)), (7, zR 43), (0, zR 38), (1, zR 40), (2, zI r0), (3, zI c0), (4, zI 1), (5, zI wr), (6, zI wc)] [] (hM M (Sb t r0 c0 1 J) (Bj t r0 c0 1 M J))
        refine z_iconst (pc := 318) hc 1 dL_spread_318 ?_
        refine z_goto (pc := 319) (tgt := 323) hc (by decide) dL_spread_319 ?_
        exact zJW_eq (by rfl) (by first | (rw [en_1 h304]; done) | (rw [en_3 h304 h315]; done) | (rw [en_2 h315]; done)) (by rfl) hJ323
  · exfalso; omega

set_option maxRecDepth 100000 in
set_option maxHeartbeats 600000 in
theorem spr_end_0 {X X0 : CX} {M : Mem} {t : TS} {r0 c0 wr wc : Int} (hc : zCx KLs1 X) (hX32 : ∀ j : Int, 0 ≤ j → j < 5 → 3 ≤ M 32 j ∧ M 32 j ≤ 7) (hF : p4F (M 38) t) (hT : p4T (M 40) t) (hO : TOk t) (hi0 : inT t r0 c0 = true) (hiw : inT t wr wc = true) (J : Nat) (hJ1 : 1 ≤ J) (hJ : J ≤ 144) (ha : zAl 45 (1 + J) (12 + 12 * J) X0 X) (he : zEndA 145 1740 (fun v M' => v = some (spR t r0 c0 2 wr wc) ∧ M' = M) X0) (hgz : gr t r0 c0 2 J = 0) : zJW X 26 [(11, zI (gr t r0 c0 2 J)), (10, zI (J : Int)), (9, zI (cnS t r0 c0 2 J)), (8, zI (stS t r0 c0 2 wr wc J)), (7, zR 43), (0, zR 38), (1, zR 40), (2, zI r0), (3, zI c0), (4, zI 0), (5, zI wr), (6, zI wc)] [] (hM M (Sb t r0 c0 2 J) (Bj t r0 c0 2 M J)) := by
  obtain ⟨hO1, hO2, hO3, hO4, hO5⟩ := id hO
  have ht12 : tH t ≤ 12 ∧ tW t ≤ 12 := ⟨hO2, hO4⟩
  have hT1 := hT.1
  have hT2 := hT.2.1
  have hib0 := inT_bd hi0
  have hibw := inT_bd hiw
  have hst := stS_bd (t := t) (r0 := r0) (c0 := c0) (e := 2) (wr := wr) (wc := wc) ht12 hi0 J
  have hz0 := zmk12_bd (fun c : Nat => (Sb t r0 c0 2 J) 0 c)
  have hz1 := zmk12_bd (fun c : Nat => (Sb t r0 c0 2 J) (M 40 0 - 1) c)
  refine z_ilw (pc := 26) hc 0 rfl dL_spread_26 ?_
  refine z_ile (pc := 28) (tgt := 300) hc (by omega) (by decide) dL_spread_28 (fun h28 => ?_) (fun h28 => ?_)
  · show zJW X 300 [(11, zI (gr t r0 c0 2 J)), (10, zI (J : Int)), (9, zI (cnS t r0 c0 2 J)), (8, zI (stS t r0 c0 2 wr wc J)), (7, zR 43), (0, zR 38), (1, zR 40), (2, zI r0), (3, zI c0), (4, zI 0), (5, zI wr), (6, zI wc)] [] (hM M (Sb t r0 c0 2 J) (Bj t r0 c0 2 M J))
    refine z_alw (pc := 300) hc 4 rfl dL_spread_300 ?_
    refine z_iconst (pc := 302) hc 0 dL_spread_302 ?_
    refine z_iald (pc := 303) hc (by decide) rfl rfl (by decide) (by omega) dL_spread_303 ?_
    refine zJW_eq (st' := [zI (zmk (fun c : Nat => (Sb t r0 c0 2 J) 0 c) 12)]) rfl (by rw [hM_43 (by omega)]) rfl ?_
    have hJ323 : zJW X 323 [(11, zI (gr t r0 c0 2 J)), (10, zI (J : Int)), (9, zI (cnS t r0 c0 2 J)), (8, zI (stS t r0 c0 2 wr wc J)), (7, zR 43), (0, zR 38), (1, zR 40), (2, zI r0), (3, zI c0), (4, zI 0), (5, zI wr), (6, zI wc)] [zI (zbz (enB (M 40 0) (M 40 1) (Sb t r0 c0 2 J) 0))] (hM M (Sb t r0 c0 2 J) (Bj t r0 c0 2 M J)) := by
      refine z_isw (pc := 323) (lv' := [(12, zI (zbz (enB (M 40 0) (M 40 1) (Sb t r0 c0 2 J) 0))), (11, zI (gr t r0 c0 2 J)), (10, zI (J : Int)), (9, zI (cnS t r0 c0 2 J)), (8, zI (stS t r0 c0 2 wr wc J)), (7, zR 43), (0, zR 38), (1, zR 40), (2, zI r0), (3, zI c0), (4, zI 0), (5, zI wr), (6, zI wc)]) hc rfl (Nat.le_of_ble_eq_true rfl) dL_spread_323 ?_
      refine z_iconst (pc := 325) hc (-1) dL_spread_325 ?_
      refine z_isw (pc := 326) (lv' := [(13, zI (-1)), (12, zI (zbz (enB (M 40 0) (M 40 1) (Sb t r0 c0 2 J) 0))), (11, zI (gr t r0 c0 2 J)), (10, zI (J : Int)), (9, zI (cnS t r0 c0 2 J)), (8, zI (stS t r0 c0 2 wr wc J)), (7, zR 43), (0, zR 38), (1, zR 40), (2, zI r0), (3, zI c0), (4, zI 0), (5, zI wr), (6, zI wc)]) hc rfl (Nat.le_of_ble_eq_true rfl) dL_spread_326 ?_
      refine z_ald (pc := 328) hc 8 rfl dL_spread_328 ?_
      refine z_iconst (pc := 329) hc 0 dL_spread_329 ?_
      refine z_iald (pc := 330) hc (by decide) rfl rfl (by decide) (by omega) dL_spread_330 ?_
      show zJW X 331 [(13, zI (-1)), (12, zI (zbz (enB (M 40 0) (M 40 1) (Sb t r0 c0 2 J) 0))), (11, zI (gr t r0 c0 2 J)), (10, zI (J : Int)), (9, zI (cnS t r0 c0 2 J)), (8, zI (stS t r0 c0 2 wr wc J)), (7, zR 43), (0, zR 38), (1, zR 40), (2, zI r0), (3, zI c0), (4, zI 0), (5, zI wr), (6, zI wc)] [zI (M 40 0)] (hM M (Sb t r0 c0 2 J) (Bj t r0 c0 2 M J))
      refine z_iconst (pc := 331) hc 1 dL_spread_331 ?_
      refine z_isub (pc := 332) hc dL_spread_332 ?_
      refine z_isw (pc := 333) (lv' := [(14, zI ((M 40 0) - 1)), (13, zI (-1)), (12, zI (zbz (enB (M 40 0) (M 40 1) (Sb t r0 c0 2 J) 0))), (11, zI (gr t r0 c0 2 J)), (10, zI (J : Int)), (9, zI (cnS t r0 c0 2 J)), (8, zI (stS t r0 c0 2 wr wc J)), (7, zR 43), (0, zR 38), (1, zR 40), (2, zI r0), (3, zI c0), (4, zI 0), (5, zI wr), (6, zI wc)]) hc rfl (Nat.le_of_ble_eq_true rfl) dL_spread_333 ?_
      refine z_for ((M 40 0).toNat) (fun i335 => [(14, zI (M 40 0 - 1 - (i335 : Int))), (13, zI (zrep (foO (M 40 0) (M 40 1) (Sb t r0 c0 2 J)) i335 (-1))), (12, zI (zbz (enB (M 40 0) (M 40 1) (Sb t r0 c0 2 J) i335))), (11, zI (gr t r0 c0 2 J)), (10, zI (J : Int)), (9, zI (cnS t r0 c0 2 J)), (8, zI (stS t r0 c0 2 wr wc J)), (7, zR 43), (0, zR 38), (1, zR 40), (2, zI r0), (3, zI c0), (4, zI 0), (5, zI wr), (6, zI wc)]) (fun i335 => (hM M (Sb t r0 c0 2 J) (Bj t r0 c0 2 M J))) (by rw [zrep_0, show M 40 0 - 1 - ((0 : Nat) : Int) = M 40 0 - 1 from Int.sub_zero _]) (by rfl) ?_ (fun i335 hi335 ih335 => ?_)
      · show zJW X 335 [(14, zI (M 40 0 - 1 - (((M 40 0).toNat) : Int))), (13, zI (zrep (foO (M 40 0) (M 40 1) (Sb t r0 c0 2 J)) ((M 40 0).toNat) (-1))), (12, zI (zbz (enB (M 40 0) (M 40 1) (Sb t r0 c0 2 J) ((M 40 0).toNat)))), (11, zI (gr t r0 c0 2 J)), (10, zI (J : Int)), (9, zI (cnS t r0 c0 2 J)), (8, zI (stS t r0 c0 2 wr wc J)), (7, zR 43), (0, zR 38), (1, zR 40), (2, zI r0), (3, zI c0), (4, zI 0), (5, zI wr), (6, zI wc)] [] (hM M (Sb t r0 c0 2 J) (Bj t r0 c0 2 M J))
        refine z_ilw (pc := 335) hc 0 rfl dL_spread_335 ?_
        refine z_ilt (pc := 337) (tgt := 419) hc (by omega) (by decide) dL_spread_337 (fun h337 => ?_) (fun h337 => ?_)
        · show zJW X 419 [(14, zI (M 40 0 - 1 - (((M 40 0).toNat) : Int))), (13, zI (zrep (foO (M 40 0) (M 40 1) (Sb t r0 c0 2 J)) ((M 40 0).toNat) (-1))), (12, zI (zbz (enB (M 40 0) (M 40 1) (Sb t r0 c0 2 J) ((M 40 0).toNat)))), (11, zI (gr t r0 c0 2 J)), (10, zI (J : Int)), (9, zI (cnS t r0 c0 2 J)), (8, zI (stS t r0 c0 2 wr wc J)), (7, zR 43), (0, zR 38), (1, zR 40), (2, zI r0), (3, zI c0), (4, zI 0), (5, zI wr), (6, zI wc)] [] (hM M (Sb t r0 c0 2 J) (Bj t r0 c0 2 M J))
          refine z_ilw (pc := 419) hc 13 rfl dL_spread_419 ?_
          refine z_ild (pc := 421) hc 10 rfl dL_spread_421 ?_
          refine z_cne (pc := 422) (tgt := 448) hc (by omega) (by decide) dL_spread_422 (fun h422 => ?_) (fun h422 => ?_)
          · show zJW X 448 [(14, zI (M 40 0 - 1 - (((M 40 0).toNat) : Int))), (13, zI (zrep (foO (M 40 0) (M 40 1) (Sb t r0 c0 2 J)) ((M 40 0).toNat) (-1))), (12, zI (zbz (enB (M 40 0) (M 40 1) (Sb t r0 c0 2 J) ((M 40 0).toNat)))), (11, zI (gr t r0 c0 2 J)), (10, zI (J : Int)), (9, zI (cnS t r0 c0 2 J)), (8, zI (stS t r0 c0 2 wr wc J)), (7, zR 43), (0, zR 38), (1, zR 40), (2, zI r0), (3, zI c0), (4, zI 0), (5, zI wr), (6, zI wc)] [] (hM M (Sb t r0 c0 2 J) (Bj t r0 c0 2 M J))
            refine z_ilw (pc := 448) hc 6 rfl dL_spread_448 ?_
            exact z_zretA (pc := 450) (M0 := M) hc he ha ⟨by omega, by omega⟩ rfl rfl dL_spread_450 (fun j h0 h1 => by rw [hM_lo (by decide)]; exact hX32 j h0 h1) (fun i hi => hM_lo hi) ⟨congrArg some (by first | exact spR_2 hO hi0 hJ1 hgz (fun h => h428 h.2) | exact spR_2 hO hi0 hJ1 hgz (fun h => h422 h.1)), rfl⟩
          · show zJW X 425 [(14, zI (M 40 0 - 1 - (((M 40 0).toNat) : Int))), (13, zI (zrep (foO (M 40 0) (M 40 1) (Sb t r0 c0 2 J)) ((M 40 0).toNat) (-1))), (12, zI (zbz (enB (M 40 0) (M 40 1) (Sb t r0 c0 2 J) ((M 40 0).toNat)))), (11, zI (gr t r0 c0 2 J)), (10, zI (J : Int)), (9, zI (cnS t r0 c0 2 J)), (8, zI (stS t r0 c0 2 wr wc J)), (7, zR 43), (0, zR 38), (1, zR 40), (2, zI r0), (3, zI c0), (4, zI 0), (5, zI wr), (6, zI wc)] [] (hM M (Sb t r0 c0 2 J) (Bj t r0 c0 2 M J))
            refine z_ilw (pc := 425) hc 14 rfl dL_spread_425 ?_
            refine z_ild (pc := 427) hc 11 rfl dL_spread_427 ?_
            refine z_cne (pc := 428) (tgt := 448) hc (by omega) (by decide) dL_spread_428 (fun h428 => ?_) (fun h428 => ?_)
            · show zJW X 448 [(14, zI (M 40 0 - 1 - (((M 40 0).toNat) : Int))), (13, zI (zrep (foO (M 40 0) (M 40 1) (Sb t r0 c0 2 J)) ((M 40 0).toNat) (-1))), (12, zI (zbz (enB (M 40 0) (M 40 1) (Sb t r0 c0 2 J) ((M 40 0).toNat)))), (11, zI (gr t r0 c0 2 J)), (10, zI (J : Int)), (9, zI (cnS t r0 c0 2 J)), (8, zI (stS t r0 c0 2 wr wc J)), (7, zR 43), (0, zR 38), (1, zR 40), (2, zI r0), (3, zI c0), (4, zI 0), (5, zI wr), (6, zI wc)] [] (hM M (Sb t r0 c0 2 J) (Bj t r0 c0 2 M J))
              refine z_ilw (pc := 448) hc 6 rfl dL_spread_448 ?_
              exact z_zretA (pc := 450) (M0 := M) hc he ha ⟨by omega, by omega⟩ rfl rfl dL_spread_450 (fun j h0 h1 => by rw [hM_lo (by decide)]; exact hX32 j h0 h1) (fun i hi => hM_lo hi) ⟨congrArg some (by first | exact spR_2 hO hi0 hJ1 hgz (fun h => h428 h.2) | exact spR_2 hO hi0 hJ1 hgz (fun h => h422 h.1)), rfl⟩
            · show zJW X 431 [(14, zI (M 40 0 - 1 - (((M 40 0).toNat) : Int))), (13, zI (zrep (foO (M 40 0) (M 40 1) (Sb t r0 c0 2 J)) ((M 40 0).toNat) (-1))), (12, zI (zbz (enB (M 40 0) (M 40 1) (Sb t r0 c0 2 J) ((M 40 0).toNat)))), (11, zI (gr t r0 c0 2 J)), (10, zI (J : Int)), (9, zI (cnS t r0 c0 2 J)), (8, zI (stS t r0 c0 2 wr wc J)), (7, zR 43), (0, zR 38), (1, zR 40), (2, zI r0), (3, zI c0), (4, zI 0), (5, zI wr), (6, zI wc)] [] (hM M (Sb t r0 c0 2 J) (Bj t r0 c0 2 M J))
              refine z_sipush (pc := 431) hc 10000 (by decide) dL_spread_431 ?_
              refine z_ilw (pc := 434) hc 5 rfl dL_spread_434 ?_
              refine z_imul (pc := 436) hc dL_spread_436 ?_
              refine z_iconst (pc := 437) hc 2 dL_spread_437 ?_
              refine z_ilw (pc := 438) hc 1 rfl dL_spread_438 ?_
              refine z_imul (pc := 440) hc dL_spread_440 ?_
              refine z_iadd (pc := 441) hc dL_spread_441 ?_
              refine z_ilw (pc := 442) hc 2 rfl dL_spread_442 ?_
              refine z_iadd (pc := 444) hc dL_spread_444 ?_
              refine z_goto (pc := 445) (tgt := 450) hc (by decide) dL_spread_445 ?_
              exact z_zretA (pc := 450) (M0 := M) hc he ha ⟨by omega, by omega⟩ rfl rfl dL_spread_450 (fun j h0 h1 => by rw [hM_lo (by decide)]; exact hX32 j h0 h1) (fun i hi => hM_lo hi) ⟨congrArg some (spR_1 hO hi0 hJ1 hgz hT1 hT2 ⟨h422, h428⟩), rfl⟩
        · exfalso; omega
      · show zJW X 335 [(14, zI (M 40 0 - 1 - (i335 : Int))), (13, zI (zrep (foO (M 40 0) (M 40 1) (Sb t r0 c0 2 J)) i335 (-1))), (12, zI (zbz (enB (M 40 0) (M 40 1) (Sb t r0 c0 2 J) i335))), (11, zI (gr t r0 c0 2 J)), (10, zI (J : Int)), (9, zI (cnS t r0 c0 2 J)), (8, zI (stS t r0 c0 2 wr wc J)), (7, zR 43), (0, zR 38), (1, zR 40), (2, zI r0), (3, zI c0), (4, zI 0), (5, zI wr), (6, zI wc)] [] (hM M (Sb t r0 c0 2 J) (Bj t r0 c0 2 M J))
        refine z_ilw (pc := 335) hc 0 rfl dL_spread_335 ?_
        refine z_ilt (pc := 337) (tgt := 419) hc (by omega) (by decide) dL_spread_337 (fun h337 => ?_) (fun h337 => ?_)
        · exfalso; omega
        · show zJW X 340 [(14, zI (M 40 0 - 1 - (i335 : Int))), (13, zI (zrep (foO (M 40 0) (M 40 1) (Sb t r0 c0 2 J)) i335 (-1))), (12, zI (zbz (enB (M 40 0) (M 40 1) (Sb t r0 c0 2 J) i335))), (11, zI (gr t r0 c0 2 J)), (10, zI (J : Int)), (9, zI (cnS t r0 c0 2 J)), (8, zI (stS t r0 c0 2 wr wc J)), (7, zR 43), (0, zR 38), (1, zR 40), (2, zI r0), (3, zI c0), (4, zI 0), (5, zI wr), (6, zI wc)] [] (hM M (Sb t r0 c0 2 J) (Bj t r0 c0 2 M J))
          refine z_ilw (pc := 340) hc 2 rfl dL_spread_340 ?_
          refine z_alw (pc := 342) hc 7 rfl dL_spread_342 ?_
          refine z_ilw (pc := 344) hc 0 rfl dL_spread_344 ?_
          refine z_iald (pc := 346) hc (by decide) rfl rfl (by decide) (by omega) dL_spread_346 ?_
          refine z_iconst (pc := 347) hc 1 dL_spread_347 ?_
          refine z_iand (pc := 348) hc dL_spread_348 ?_
          refine zJW_eq (st' := [zI (zbz ((Sb t r0 c0 2 J) (M 40 0 - 1 - (i335 : Int)) 0)), zI (zbz (enB (M 40 0) (M 40 1) (Sb t r0 c0 2 J) i335))]) rfl (by rw [hM_b0 (by omega)]) rfl ?_
          refine z_alw (pc := 349) hc 7 rfl dL_spread_349 ?_
          refine z_ilw (pc := 351) hc 0 rfl dL_spread_351 ?_
          refine z_iald (pc := 353) hc (by decide) rfl rfl (by decide) (by omega) dL_spread_353 ?_
          refine z_ald (pc := 354) hc 9 rfl dL_spread_354 ?_
          refine z_iconst (pc := 355) hc 1 dL_spread_355 ?_
          refine z_iald (pc := 356) hc (by decide) rfl rfl (by decide) (by omega) dL_spread_356 ?_
          show zJW X 357 [(14, zI (M 40 0 - 1 - (i335 : Int))), (13, zI (zrep (foO (M 40 0) (M 40 1) (Sb t r0 c0 2 J)) i335 (-1))), (12, zI (zbz (enB (M 40 0) (M 40 1) (Sb t r0 c0 2 J) i335))), (11, zI (gr t r0 c0 2 J)), (10, zI (J : Int)), (9, zI (cnS t r0 c0 2 J)), (8, zI (stS t r0 c0 2 wr wc J)), (7, zR 43), (0, zR 38), (1, zR 40), (2, zI r0), (3, zI c0), (4, zI 0), (5, zI wr), (6, zI wc)] [zI (M 40 1), zI ((hM M (Sb t r0 c0 2 J) (Bj t r0 c0 2 M J)) 43 (M 40 0 - 1 - (i335 : Int))), zI (zbz ((Sb t r0 c0 2 J) (M 40 0 - 1 - (i335 : Int)) 0)), zI (zbz (enB (M 40 0) (M 40 1) (Sb t r0 c0 2 J) i335))] (hM M (Sb t r0 c0 2 J) (Bj t r0 c0 2 M J))
          refine z_iconst (pc := 357) hc 1 dL_spread_357 ?_
          refine z_isub (pc := 358) hc dL_spread_358 ?_
          refine z_ishr (pc := 359) hc dL_spread_359 ?_
          refine z_iconst (pc := 360) hc 1 dL_spread_360 ?_
          refine z_iand (pc := 361) hc dL_spread_361 ?_
          refine zJW_eq (st' := [zI (zbz ((Sb t r0 c0 2 J) (M 40 0 - 1 - (i335 : Int)) (M 40 1 - 1))), zI (zbz ((Sb t r0 c0 2 J) (M 40 0 - 1 - (i335 : Int)) 0)), zI (zbz (enB (M 40 0) (M 40 1) (Sb t r0 c0 2 J) i335))]) rfl (by rw [hM_bit (by omega) (by omega)]) rfl ?_
          refine z_ior (pc := 362) hc dL_spread_362 ?_
          refine z_ior (pc := 363) hc dL_spread_363 ?_
          refine zJW_eq (st' := [zI (zbz (enB (M 40 0) (M 40 1) (Sb t r0 c0 2 J) (i335 + 1)))]) rfl (by rw [zor_b3]; rfl) rfl ?_
          refine z_isw (pc := 364) (lv' := [(12, zI (zbz (enB (M 40 0) (M 40 1) (Sb t r0 c0 2 J) (i335 + 1)))), (14, zI (M 40 0 - 1 - (i335 : Int))), (13, zI (zrep (foO (M 40 0) (M 40 1) (Sb t r0 c0 2 J)) i335 (-1))), (11, zI (gr t r0 c0 2 J)), (10, zI (J : Int)), (9, zI (cnS t r0 c0 2 J)), (8, zI (stS t r0 c0 2 wr wc J)), (7, zR 43), (0, zR 38), (1, zR 40), (2, zI r0), (3, zI c0), (4, zI 0), (5, zI wr), (6, zI wc)]) hc rfl (Nat.le_of_ble_eq_true rfl) dL_spread_364 ?_
          refine z_ald (pc := 366) hc 9 rfl dL_spread_366 ?_
          refine z_iconst (pc := 367) hc 1 dL_spread_367 ?_
          refine z_iald (pc := 368) hc (by decide) rfl rfl (by decide) (by omega) dL_spread_368 ?_
          show zJW X 369 [(12, zI (zbz (enB (M 40 0) (M 40 1) (Sb t r0 c0 2 J) (i335 + 1)))), (14, zI (M 40 0 - 1 - (i335 : Int))), (13, zI (zrep (foO (M 40 0) (M 40 1) (Sb t r0 c0 2 J)) i335 (-1))), (11, zI (gr t r0 c0 2 J)), (10, zI (J : Int)), (9, zI (cnS t r0 c0 2 J)), (8, zI (stS t r0 c0 2 wr wc J)), (7, zR 43), (0, zR 38), (1, zR 40), (2, zI r0), (3, zI c0), (4, zI 0), (5, zI wr), (6, zI wc)] [zI (M 40 1)] (hM M (Sb t r0 c0 2 J) (Bj t r0 c0 2 M J))
          refine z_iconst (pc := 369) hc 1 dL_spread_369 ?_
          refine z_isub (pc := 370) hc dL_spread_370 ?_
          refine z_isw (pc := 371) (lv' := [(15, zI ((M 40 1) - 1)), (12, zI (zbz (enB (M 40 0) (M 40 1) (Sb t r0 c0 2 J) (i335 + 1)))), (14, zI (M 40 0 - 1 - (i335 : Int))), (13, zI (zrep (foO (M 40 0) (M 40 1) (Sb t r0 c0 2 J)) i335 (-1))), (11, zI (gr t r0 c0 2 J)), (10, zI (J : Int)), (9, zI (cnS t r0 c0 2 J)), (8, zI (stS t r0 c0 2 wr wc J)), (7, zR 43), (0, zR 38), (1, zR 40), (2, zI r0), (3, zI c0), (4, zI 0), (5, zI wr), (6, zI wc)]) hc rfl (Nat.le_of_ble_eq_true rfl) dL_spread_371 ?_
          refine z_for ((M 40 1).toNat) (fun i373 => [(15, zI (M 40 1 - 1 - (i373 : Int))), (12, zI (zbz (enB (M 40 0) (M 40 1) (Sb t r0 c0 2 J) (i335 + 1)))), (14, zI (M 40 0 - 1 - (i335 : Int))), (13, zI (zrep (foI (M 40 0) (M 40 1) (Sb t r0 c0 2 J) i335) i373 (zrep (foO (M 40 0) (M 40 1) (Sb t r0 c0 2 J)) i335 (-1)))), (11, zI (gr t r0 c0 2 J)), (10, zI (J : Int)), (9, zI (cnS t r0 c0 2 J)), (8, zI (stS t r0 c0 2 wr wc J)), (7, zR 43), (0, zR 38), (1, zR 40), (2, zI r0), (3, zI c0), (4, zI 0), (5, zI wr), (6, zI wc)]) (fun i373 => (hM M (Sb t r0 c0 2 J) (Bj t r0 c0 2 M J))) (by rw [zrep_0, show M 40 1 - 1 - ((0 : Nat) : Int) = M 40 1 - 1 from Int.sub_zero _]) (by rfl) ?_ (fun i373 hi373 ih373 => ?_)
          · show zJW X 373 [(15, zI (M 40 1 - 1 - (((M 40 1).toNat) : Int))), (12, zI (zbz (enB (M 40 0) (M 40 1) (Sb t r0 c0 2 J) (i335 + 1)))), (14, zI (M 40 0 - 1 - (i335 : Int))), (13, zI (zrep (foI (M 40 0) (M 40 1) (Sb t r0 c0 2 J) i335) ((M 40 1).toNat) (zrep (foO (M 40 0) (M 40 1) (Sb t r0 c0 2 J)) i335 (-1)))), (11, zI (gr t r0 c0 2 J)), (10, zI (J : Int)), (9, zI (cnS t r0 c0 2 J)), (8, zI (stS t r0 c0 2 wr wc J)), (7, zR 43), (0, zR 38), (1, zR 40), (2, zI r0), (3, zI c0), (4, zI 0), (5, zI wr), (6, zI wc)] [] (hM M (Sb t r0 c0 2 J) (Bj t r0 c0 2 M J))
            refine z_ilw (pc := 373) hc 0 rfl dL_spread_373 ?_
            refine z_ilt (pc := 375) (tgt := 413) hc (by omega) (by decide) dL_spread_375 (fun h375 => ?_) (fun h375 => ?_)
            · show zJW X 413 [(15, zI (M 40 1 - 1 - (((M 40 1).toNat) : Int))), (12, zI (zbz (enB (M 40 0) (M 40 1) (Sb t r0 c0 2 J) (i335 + 1)))), (14, zI (M 40 0 - 1 - (i335 : Int))), (13, zI (zrep (foI (M 40 0) (M 40 1) (Sb t r0 c0 2 J) i335) ((M 40 1).toNat) (zrep (foO (M 40 0) (M 40 1) (Sb t r0 c0 2 J)) i335 (-1)))), (11, zI (gr t r0 c0 2 J)), (10, zI (J : Int)), (9, zI (cnS t r0 c0 2 J)), (8, zI (stS t r0 c0 2 wr wc J)), (7, zR 43), (0, zR 38), (1, zR 40), (2, zI r0), (3, zI c0), (4, zI 0), (5, zI wr), (6, zI wc)] [] (hM M (Sb t r0 c0 2 J) (Bj t r0 c0 2 M J))
              refine z_iinc (pc := 413) (lv' := [(14, zI ((M 40 0 - 1 - (i335 : Int)) + (-1))), (15, zI (M 40 1 - 1 - (((M 40 1).toNat) : Int))), (12, zI (zbz (enB (M 40 0) (M 40 1) (Sb t r0 c0 2 J) (i335 + 1)))), (13, zI (zrep (foI (M 40 0) (M 40 1) (Sb t r0 c0 2 J) i335) ((M 40 1).toNat) (zrep (foO (M 40 0) (M 40 1) (Sb t r0 c0 2 J)) i335 (-1)))), (11, zI (gr t r0 c0 2 J)), (10, zI (J : Int)), (9, zI (cnS t r0 c0 2 J)), (8, zI (stS t r0 c0 2 wr wc J)), (7, zR 43), (0, zR 38), (1, zR 40), (2, zI r0), (3, zI c0), (4, zI 0), (5, zI wr), (6, zI wc)]) hc 2 rfl rfl (Nat.le_of_ble_eq_true rfl) dL_spread_413 ?_
              refine z_goto (pc := 416) (tgt := 335) hc (by decide) dL_spread_416 ?_
              refine zJW_sub (lv' := [(14, zI ((M 40 0 - 1 - (i335 : Int)) + (-1))), (13, zI (zrep (foI (M 40 0) (M 40 1) (Sb t r0 c0 2 J) i335) ((M 40 1).toNat) (zrep (foO (M 40 0) (M 40 1) (Sb t r0 c0 2 J)) i335 (-1)))), (12, zI (zbz (enB (M 40 0) (M 40 1) (Sb t r0 c0 2 J) (i335 + 1)))), (11, zI (gr t r0 c0 2 J)), (10, zI (J : Int)), (9, zI (cnS t r0 c0 2 J)), (8, zI (stS t r0 c0 2 wr wc J)), (7, zR 43), (0, zR 38), (1, zR 40), (2, zI r0), (3, zI c0), (4, zI 0), (5, zI wr), (6, zI wc)]) [0, 3, 2, 4, 5, 6, 7, 8, 9, 10, 11, 12, 13, 14, 15] rfl ?_
              exact zJW_eq (by rw [show M 40 0 - 1 - ((i335 + 1 : Nat) : Int) = M 40 0 - 1 - (i335 : Int) + (-1) by omega, foO_s]) rfl (by rfl) ih335
            · exfalso; omega
          · show zJW X 373 [(15, zI (M 40 1 - 1 - (i373 : Int))), (12, zI (zbz (enB (M 40 0) (M 40 1) (Sb t r0 c0 2 J) (i335 + 1)))), (14, zI (M 40 0 - 1 - (i335 : Int))), (13, zI (zrep (foI (M 40 0) (M 40 1) (Sb t r0 c0 2 J) i335) i373 (zrep (foO (M 40 0) (M 40 1) (Sb t r0 c0 2 J)) i335 (-1)))), (11, zI (gr t r0 c0 2 J)), (10, zI (J : Int)), (9, zI (cnS t r0 c0 2 J)), (8, zI (stS t r0 c0 2 wr wc J)), (7, zR 43), (0, zR 38), (1, zR 40), (2, zI r0), (3, zI c0), (4, zI 0), (5, zI wr), (6, zI wc)] [] (hM M (Sb t r0 c0 2 J) (Bj t r0 c0 2 M J))
            have hsb := zbz_bd ((Sb t r0 c0 2 J) (M 40 0 - 1 - (i335 : Int)) (M 40 1 - 1 - (i373 : Int)))
            have e13 : zrep (foI (M 40 0) (M 40 1) (Sb t r0 c0 2 J) i335) (i373 + 1) (zrep (foO (M 40 0) (M 40 1) (Sb t r0 c0 2 J)) i335 (-1)) = if (Sb t r0 c0 2 J) (M 40 0 - 1 - (i335 : Int)) (M 40 1 - 1 - (i373 : Int)) = true then 100 * (M 40 0 - 1 - (i335 : Int)) + (M 40 1 - 1 - (i373 : Int)) else zrep (foI (M 40 0) (M 40 1) (Sb t r0 c0 2 J) i335) i373 (zrep (foO (M 40 0) (M 40 1) (Sb t r0 c0 2 J)) i335 (-1)) := foI_s i373 _
            refine z_ilw (pc := 373) hc 0 rfl dL_spread_373 ?_
            refine z_ilt (pc := 375) (tgt := 413) hc (by omega) (by decide) dL_spread_375 (fun h375 => ?_) (fun h375 => ?_)
            · exfalso; omega
            · show zJW X 378 [(15, zI (M 40 1 - 1 - (i373 : Int))), (12, zI (zbz (enB (M 40 0) (M 40 1) (Sb t r0 c0 2 J) (i335 + 1)))), (14, zI (M 40 0 - 1 - (i335 : Int))), (13, zI (zrep (foI (M 40 0) (M 40 1) (Sb t r0 c0 2 J) i335) i373 (zrep (foO (M 40 0) (M 40 1) (Sb t r0 c0 2 J)) i335 (-1)))), (11, zI (gr t r0 c0 2 J)), (10, zI (J : Int)), (9, zI (cnS t r0 c0 2 J)), (8, zI (stS t r0 c0 2 wr wc J)), (7, zR 43), (0, zR 38), (1, zR 40), (2, zI r0), (3, zI c0), (4, zI 0), (5, zI wr), (6, zI wc)] [] (hM M (Sb t r0 c0 2 J) (Bj t r0 c0 2 M J))
              refine z_alw (pc := 378) hc 8 rfl dL_spread_378 ?_
              refine z_ilw (pc := 380) hc 2 rfl dL_spread_380 ?_
              refine z_iald (pc := 382) hc (by decide) rfl rfl (by decide) (by omega) dL_spread_382 ?_
              refine z_ilw (pc := 383) hc 0 rfl dL_spread_383 ?_
              refine z_ishr (pc := 385) hc dL_spread_385 ?_
              refine z_iconst (pc := 386) hc 1 dL_spread_386 ?_
              refine z_iand (pc := 387) hc dL_spread_387 ?_
              refine zJW_eq (st' := [zI (zbz ((Sb t r0 c0 2 J) (M 40 0 - 1 - (i335 : Int)) (M 40 1 - 1 - (i373 : Int))))]) rfl (by rw [hM_bit (by omega) (by omega)]) rfl ?_
              refine z_iconst (pc := 388) hc 1 dL_spread_388 ?_
              refine z_cne (pc := 389) (tgt := 403) hc (by omega) (by decide) dL_spread_389 (fun h389 => ?_) (fun h389 => ?_)
              · show zJW X 403 [(15, zI (M 40 1 - 1 - (i373 : Int))), (12, zI (zbz (enB (M 40 0) (M 40 1) (Sb t r0 c0 2 J) (i335 + 1)))), (14, zI (M 40 0 - 1 - (i335 : Int))), (13, zI (zrep (foI (M 40 0) (M 40 1) (Sb t r0 c0 2 J) i335) i373 (zrep (foO (M 40 0) (M 40 1) (Sb t r0 c0 2 J)) i335 (-1)))), (11, zI (gr t r0 c0 2 J)), (10, zI (J : Int)), (9, zI (cnS t r0 c0 2 J)), (8, zI (stS t r0 c0 2 wr wc J)), (7, zR 43), (0, zR 38), (1, zR 40), (2, zI r0), (3, zI c0), (4, zI 0), (5, zI wr), (6, zI wc)] [] (hM M (Sb t r0 c0 2 J) (Bj t r0 c0 2 M J))
                refine z_ilw (pc := 403) hc 3 rfl dL_spread_403 ?_
                refine z_isw (pc := 405) (lv' := [(13, zI (zrep (foI (M 40 0) (M 40 1) (Sb t r0 c0 2 J) i335) i373 (zrep (foO (M 40 0) (M 40 1) (Sb t r0 c0 2 J)) i335 (-1)))), (15, zI (M 40 1 - 1 - (i373 : Int))), (12, zI (zbz (enB (M 40 0) (M 40 1) (Sb t r0 c0 2 J) (i335 + 1)))), (14, zI (M 40 0 - 1 - (i335 : Int))), (11, zI (gr t r0 c0 2 J)), (10, zI (J : Int)), (9, zI (cnS t r0 c0 2 J)), (8, zI (stS t r0 c0 2 wr wc J)), (7, zR 43), (0, zR 38), (1, zR 40), (2, zI r0), (3, zI c0), (4, zI 0), (5, zI wr), (6, zI wc)]) hc rfl (Nat.le_of_ble_eq_true rfl) dL_spread_405 ?_
                refine z_iinc (pc := 407) (lv' := [(15, zI ((M 40 1 - 1 - (i373 : Int)) + (-1))), (13, zI (zrep (foI (M 40 0) (M 40 1) (Sb t r0 c0 2 J) i335) i373 (zrep (foO (M 40 0) (M 40 1) (Sb t r0 c0 2 J)) i335 (-1)))), (12, zI (zbz (enB (M 40 0) (M 40 1) (Sb t r0 c0 2 J) (i335 + 1)))), (14, zI (M 40 0 - 1 - (i335 : Int))), (11, zI (gr t r0 c0 2 J)), (10, zI (J : Int)), (9, zI (cnS t r0 c0 2 J)), (8, zI (stS t r0 c0 2 wr wc J)), (7, zR 43), (0, zR 38), (1, zR 40), (2, zI r0), (3, zI c0), (4, zI 0), (5, zI wr), (6, zI wc)]) hc 1 rfl rfl (Nat.le_of_ble_eq_true rfl) dL_spread_407 ?_
                refine z_goto (pc := 410) (tgt := 373) hc (by decide) dL_spread_410 ?_
                refine zJW_sub (lv' := [(15, zI ((M 40 1 - 1 - (i373 : Int)) + (-1))), (12, zI (zbz (enB (M 40 0) (M 40 1) (Sb t r0 c0 2 J) (i335 + 1)))), (14, zI (M 40 0 - 1 - (i335 : Int))), (13, zI (zrep (foI (M 40 0) (M 40 1) (Sb t r0 c0 2 J) i335) i373 (zrep (foO (M 40 0) (M 40 1) (Sb t r0 c0 2 J)) i335 (-1)))), (11, zI (gr t r0 c0 2 J)), (10, zI (J : Int)), (9, zI (cnS t r0 c0 2 J)), (8, zI (stS t r0 c0 2 wr wc J)), (7, zR 43), (0, zR 38), (1, zR 40), (2, zI r0), (3, zI c0), (4, zI 0), (5, zI wr), (6, zI wc)]) [0, 2, 3, 1, 4, 5, 6, 7, 8, 9, 10, 11, 12, 13, 14, 15] rfl ?_
                exact zJW_eq (by rw [show M 40 1 - 1 - ((i373 + 1 : Nat) : Int) = M 40 1 - 1 - (i373 : Int) + (-1) by omega, e13]; first | (rw [if_pos (p4_b1 h389)] <;> rfl) | (rw [if_neg (fun h => p4_b0 h389 h)] <;> rfl)) rfl (by rfl) ih373
              · show zJW X 392 [(15, zI (M 40 1 - 1 - (i373 : Int))), (12, zI (zbz (enB (M 40 0) (M 40 1) (Sb t r0 c0 2 J) (i335 + 1)))), (14, zI (M 40 0 - 1 - (i335 : Int))), (13, zI (zrep (foI (M 40 0) (M 40 1) (Sb t r0 c0 2 J) i335) i373 (zrep (foO (M 40 0) (M 40 1) (Sb t r0 c0 2 J)) i335 (-1)))), (11, zI (gr t r0 c0 2 J)), (10, zI (J : Int)), (9, zI (cnS t r0 c0 2 J)), (8, zI (stS t r0 c0 2 wr wc J)), (7, zR 43), (0, zR 38), (1, zR 40), (2, zI r0), (3, zI c0), (4, zI 0), (5, zI wr), (6, zI wc)] [] (hM M (Sb t r0 c0 2 J) (Bj t r0 c0 2 M J))
                refine z_bipush (pc := 392) hc 100 (by decide) dL_spread_392 ?_
                refine z_ilw (pc := 394) hc 2 rfl dL_spread_394 ?_
                refine z_imul (pc := 396) hc dL_spread_396 ?_
                refine z_ilw (pc := 397) hc 0 rfl dL_spread_397 ?_
                refine z_iadd (pc := 399) hc dL_spread_399 ?_
                refine z_goto (pc := 400) (tgt := 405) hc (by decide) dL_spread_400 ?_
                refine z_isw (pc := 405) (lv' := [(13, zI ((100 * (M 40 0 - 1 - (i335 : Int))) + (M 40 1 - 1 - (i373 : Int)))), (15, zI (M 40 1 - 1 - (i373 : Int))), (12, zI (zbz (enB (M 40 0) (M 40 1) (Sb t r0 c0 2 J) (i335 + 1)))), (14, zI (M 40 0 - 1 - (i335 : Int))), (11, zI (gr t r0 c0 2 J)), (10, zI (J : Int)), (9, zI (cnS t r0 c0 2 J)), (8, zI (stS t r0 c0 2 wr wc J)), (7, zR 43), (0, zR 38), (1, zR 40), (2, zI r0), (3, zI c0), (4, zI 0), (5, zI wr), (6, zI wc)]) hc rfl (Nat.le_of_ble_eq_true rfl) dL_spread_405 ?_
                refine z_iinc (pc := 407) (lv' := [(15, zI ((M 40 1 - 1 - (i373 : Int)) + (-1))), (13, zI ((100 * (M 40 0 - 1 - (i335 : Int))) + (M 40 1 - 1 - (i373 : Int)))), (12, zI (zbz (enB (M 40 0) (M 40 1) (Sb t r0 c0 2 J) (i335 + 1)))), (14, zI (M 40 0 - 1 - (i335 : Int))), (11, zI (gr t r0 c0 2 J)), (10, zI (J : Int)), (9, zI (cnS t r0 c0 2 J)), (8, zI (stS t r0 c0 2 wr wc J)), (7, zR 43), (0, zR 38), (1, zR 40), (2, zI r0), (3, zI c0), (4, zI 0), (5, zI wr), (6, zI wc)]) hc 1 rfl rfl (Nat.le_of_ble_eq_true rfl) dL_spread_407 ?_
                refine z_goto (pc := 410) (tgt := 373) hc (by decide) dL_spread_410 ?_
                refine zJW_sub (lv' := [(15, zI ((M 40 1 - 1 - (i373 : Int)) + (-1))), (12, zI (zbz (enB (M 40 0) (M 40 1) (Sb t r0 c0 2 J) (i335 + 1)))), (14, zI (M 40 0 - 1 - (i335 : Int))), (13, zI ((100 * (M 40 0 - 1 - (i335 : Int))) + (M 40 1 - 1 - (i373 : Int)))), (11, zI (gr t r0 c0 2 J)), (10, zI (J : Int)), (9, zI (cnS t r0 c0 2 J)), (8, zI (stS t r0 c0 2 wr wc J)), (7, zR 43), (0, zR 38), (1, zR 40), (2, zI r0), (3, zI c0), (4, zI 0), (5, zI wr), (6, zI wc)]) [0, 2, 3, 1, 4, 5, 6, 7, 8, 9, 10, 11, 12, 13, 14, 15] rfl ?_
                exact zJW_eq (by rw [show M 40 1 - 1 - ((i373 + 1 : Nat) : Int) = M 40 1 - 1 - (i373 : Int) + (-1) by omega, e13]; first | (rw [if_pos (p4_b1 h389)] <;> rfl) | (rw [if_neg (fun h => p4_b0 h389 h)] <;> rfl)) rfl (by rfl) ih373
    refine z_ine (pc := 304) (tgt := 318) hc (by omega) (by decide) dL_spread_304 (fun h304 => ?_) (fun h304 => ?_)
    · show zJW X 318 [(11, zI (gr t r0 c0 2 J)), (10, zI (J : Int)), (9, zI (cnS t r0 c0 2 J)), (8, zI (stS t r0 c0 2 wr wc J)), (7, zR 43), (0, zR 38), (1, zR 40), (2, zI r0), (3, zI c0), (4, zI 0), (5, zI wr), (6, zI wc)] [] (hM M (Sb t r0 c0 2 J) (Bj t r0 c0 2 M J))
      refine z_iconst (pc := 318) hc 1 dL_spread_318 ?_
      refine z_goto (pc := 319) (tgt := 323) hc (by decide) dL_spread_319 ?_
      exact zJW_eq (by rfl) (by first | (rw [en_1 h304]; done) | (rw [en_3 h304 h315]; done) | (rw [en_2 h315]; done)) (by rfl) hJ323
    · show zJW X 307 [(11, zI (gr t r0 c0 2 J)), (10, zI (J : Int)), (9, zI (cnS t r0 c0 2 J)), (8, zI (stS t r0 c0 2 wr wc J)), (7, zR 43), (0, zR 38), (1, zR 40), (2, zI r0), (3, zI c0), (4, zI 0), (5, zI wr), (6, zI wc)] [] (hM M (Sb t r0 c0 2 J) (Bj t r0 c0 2 M J))
      refine z_alw (pc := 307) hc 4 rfl dL_spread_307 ?_
      refine z_ald (pc := 309) hc 6 rfl dL_spread_309 ?_
      refine z_iconst (pc := 310) hc 0 dL_spread_310 ?_
      refine z_iald (pc := 311) hc (by decide) rfl rfl (by decide) (by omega) dL_spread_311 ?_
      show zJW X 312 [(11, zI (gr t r0 c0 2 J)), (10, zI (J : Int)), (9, zI (cnS t r0 c0 2 J)), (8, zI (stS t r0 c0 2 wr wc J)), (7, zR 43), (0, zR 38), (1, zR 40), (2, zI r0), (3, zI c0), (4, zI 0), (5, zI wr), (6, zI wc)] [zI (M 40 0), zR 43] (hM M (Sb t r0 c0 2 J) (Bj t r0 c0 2 M J))
      refine z_iconst (pc := 312) hc 1 dL_spread_312 ?_
      refine z_isub (pc := 313) hc dL_spread_313 ?_
      refine z_iald (pc := 314) hc (by decide) rfl rfl (by decide) (by omega) dL_spread_314 ?_
      refine zJW_eq (st' := [zI (zmk (fun c : Nat => (Sb t r0 c0 2 J) (M 40 0 - 1) c) 12)]) rfl (by rw [hM_43 (by omega)]) rfl ?_
      refine z_ieq (pc := 315) (tgt := 322) hc (by omega) (by decide) dL_spread_315 (fun h315 => ?_) (fun h315 => ?_)
      · show zJW X 322 [(11, zI (gr t r0 c0 2 J)), (10, zI (J : Int)), (9, zI (cnS t r0 c0 2 J)), (8, zI (stS t r0 c0 2 wr wc J)), (7, zR 43), (0, zR 38), (1, zR 40), (2, zI r0), (3, zI c0), (4, zI 0), (5, zI wr), (6, zI wc)] [] (hM M (Sb t r0 c0 2 J) (Bj t r0 c0 2 M J))
        refine z_iconst (pc := 322) hc 0 dL_spread_322 ?_
        exact zJW_eq (by rfl) (by first | (rw [en_1 h304]; done) | (rw [en_3 h304 h315]; done) | (rw [en_2 h315]; done)) (by rfl) hJ323
      · show zJW X 318 [(11, zI (gr t r0 c0 2 J)), (10, zI (J : Int)), (9, zI (cnS t r0 c0 2 J)), (8, zI (stS t r0 c0 2 wr wc J)), (7, zR 43), (0, zR 38), (1, zR 40), (2, zI r0), (3, zI c0), (4, zI 0), (5, zI wr), (6, zI wc)] [] (hM M (Sb t r0 c0 2 J) (Bj t r0 c0 2 M J))
        refine z_iconst (pc := 318) hc 1 dL_spread_318 ?_
        refine z_goto (pc := 319) (tgt := 323) hc (by decide) dL_spread_319 ?_
        exact zJW_eq (by rfl) (by first | (rw [en_1 h304]; done) | (rw [en_3 h304 h315]; done) | (rw [en_2 h315]; done)) (by rfl) hJ323
  · exfalso; omega

set_option maxRecDepth 100000 in
set_option maxHeartbeats 400000 in
theorem ct_L_spread_1 (M : Mem) (t : TS) (r0 c0 wr wc : Int) (hX32 : ∀ j : Int, 0 ≤ j → j < 5 → 3 ≤ M 32 j ∧ M 32 j ≤ 7) (hF : p4F (M 38) t) (hT : p4T (M 40) t) (hO : TOk t) (hi0 : inT t r0 c0 = true) (hiw : inT t wr wc = true) : zCtA yL_spread (KL_spread 38 40) 145 1740 [zR 38, zR 40, zI r0, zI c0, zI 1, zI wr, zI wc] M (fun v M' => v = some (spR t r0 c0 1 wr wc) ∧ M' = M) := by
  have hT1 := hT.1
  have hT2 := hT.2.1
  have hO' := hO
  obtain ⟨hO1, hO2, hO3, hO4, hO5⟩ := hO'
  have ht12 : tH t ≤ 12 ∧ tW t ≤ 12 := ⟨hO2, hO4⟩
  have hib0 := inT_bd hi0
  have hibw := inT_bd hiw
  refine z_metA (by decide) rfl (Nat.le_of_ble_eq_true rfl) (fun X hc he => ?_)
  have hcap : zCap X 145 1740 := he.cap
  have hn43 : zNI 43 X := he.ni (by decide)
  have hn44 : zNI 44 X := he.ni (by decide)
  have ha : zAl 45 0 0 X X := he.al (by decide)
  obtain ⟨J, hJ1, hJ, hgz, hgp⟩ := gr_stop (t := t) (r0 := r0) (c0 := c0) (e := 1) ht12 hi0
  show zJW X 0 [(0, zR 38), (1, zR 40), (2, zI r0), (3, zI c0), (4, zI 1), (5, zI wr), (6, zI wc)] [] M
  refine z_bipush (pc := 0) hc 12 (by decide) dL_spread_0 ?_
  refine z_newa (pc := 2) (K' := KLs1) (k := 43) (N := 12) hc ha ⟨rfl, rfl, rfl, rfl, rfl, rfl⟩ (fun i hi => by simp only [Bool.or_eq_true, decide_eq_true_eq] at hi ⊢; omega) hn43 (by decide) ⟨by decide, by decide⟩ rfl rfl (by decide) (hcap.le (by omega) (by omega)) (List.mem_filter.mpr ⟨List.mem_of_getElem? (i := 51) (by decide +kernel), rfl⟩) hX32 (zno_ok rfl) (zno_ok2 rfl) dL_spread_2 (fun X1 hc1 ha1 => ?_)
  show zJW X1 4 [(0, zR 38), (1, zR 40), (2, zI r0), (3, zI c0), (4, zI 1), (5, zI wr), (6, zI wc)] [zR 43] (zarn M 43)
  refine z_asw (pc := 4) (lv' := [(7, zR 43), (0, zR 38), (1, zR 40), (2, zI r0), (3, zI c0), (4, zI 1), (5, zI wr), (6, zI wc)]) hc1 rfl (Nat.le_of_ble_eq_true rfl) dL_spread_4 ?_
  refine z_alw (pc := 6) hc1 0 rfl dL_spread_6 ?_
  refine z_ild (pc := 8) hc1 3 rfl dL_spread_8 ?_
  refine z_iconst (pc := 9) hc1 1 dL_spread_9 ?_
  refine z_ild (pc := 10) hc1 4 rfl dL_spread_10 ?_
  refine z_ishl (pc := 11) hc1 dL_spread_11 ?_
  refine z_iast (pc := 12) hc1 (by decide) rfl rfl (by decide) (by omega) dL_spread_12 ?_
  refine z_bipush (pc := 13) hc1 (-6) (by decide) dL_spread_13 ?_
  refine z_isw (pc := 15) (lv' := [(8, zI (-6)), (7, zR 43), (0, zR 38), (1, zR 40), (2, zI r0), (3, zI c0), (4, zI 1), (5, zI wr), (6, zI wc)]) hc1 rfl (Nat.le_of_ble_eq_true rfl) dL_spread_15 ?_
  refine z_iconst (pc := 17) hc1 1 dL_spread_17 ?_
  refine z_isw (pc := 18) (lv' := [(9, zI 1), (8, zI (-6)), (7, zR 43), (0, zR 38), (1, zR 40), (2, zI r0), (3, zI c0), (4, zI 1), (5, zI wr), (6, zI wc)]) hc1 rfl (Nat.le_of_ble_eq_true rfl) dL_spread_18 ?_
  refine z_iconst (pc := 20) hc1 0 dL_spread_20 ?_
  refine z_isw (pc := 21) (lv' := [(10, zI 0), (9, zI 1), (8, zI (-6)), (7, zR 43), (0, zR 38), (1, zR 40), (2, zI r0), (3, zI c0), (4, zI 1), (5, zI wr), (6, zI wc)]) hc1 rfl (Nat.le_of_ble_eq_true rfl) dL_spread_21 ?_
  refine z_iconst (pc := 23) hc1 1 dL_spread_23 ?_
  refine z_isw (pc := 24) (lv' := [(11, zI 1), (10, zI 0), (9, zI 1), (8, zI (-6)), (7, zR 43), (0, zR 38), (1, zR 40), (2, zI r0), (3, zI c0), (4, zI 1), (5, zI wr), (6, zI wc)]) hc1 rfl (Nat.le_of_ble_eq_true rfl) dL_spread_24 ?_
  refine zJW_sub (lv' := [(11, zI 1), (10, zI 0), (9, zI 1), (8, zI (-6)), (7, zR 43), (0, zR 38), (1, zR 40), (2, zI r0), (3, zI c0), (4, zI 1), (5, zI wr), (6, zI wc)]) [0, 1, 2, 3, 4, 5, 6, 7, 8, 9, 10, 11] rfl ?_
  refine zJW_eq (lv' := [(11, zI (gr t r0 c0 1 0)), (10, zI ((0 : Nat) : Int)), (9, zI (cnS t r0 c0 1 0)), (8, zI (stS t r0 c0 1 wr wc 0)), (7, zR 43), (0, zR 38), (1, zR 40), (2, zI r0), (3, zI c0), (4, zI 1), (5, zI wr), (6, zI wc)]) (M' := hM M (Sb t r0 c0 1 0) (Bj t r0 c0 1 M 0)) ?_ rfl (hM_0 (S := (Sb t r0 c0 1 0)) (by omega) (by omega) (fun r' c' _ _ _ _ => Sb_0 (e := 1) ht12 hi0 r' c')) ?_
  · rw [cnS_0 ht12 hi0]
    rw [show stS t r0 c0 1 wr wc 0 = -6 from if_neg (by omega)]
    rfl
  have key : ∀ n, n ≤ J → ∀ X2 : CX, zCx KLs1 X2 → zAl 45 (1 + (J - n)) (12 + 12 * (J - n)) X X2 → zJW X2 26 [(11, zI (gr t r0 c0 1 (J - n))), (10, zI ((J - n : Nat) : Int)), (9, zI (cnS t r0 c0 1 (J - n))), (8, zI (stS t r0 c0 1 wr wc (J - n))), (7, zR 43), (0, zR 38), (1, zR 40), (2, zI r0), (3, zI c0), (4, zI 1), (5, zI wr), (6, zI wc)] [] (hM M (Sb t r0 c0 1 (J - n)) (Bj t r0 c0 1 M (J - n))) := by
    intro n
    induction n with
    | zero => intro _ X2 h1 h2; exact spr_end_1 h1 hX32 hF hT hO hi0 hiw J hJ1 hJ h2 he hgz
    | succ n ih =>
      intro hn X2 h1 h2
      have hlt : J - (n + 1) < J := by omega
      have e1 : J - (n + 1) + 1 = J - n := by omega
      refine spr_turn_1 h1 hX32 hF hT hO hi0 hiw (J - (n + 1)) (by omega) h2 hn44 hcap (hgp _ hlt) (fun X3 g1 g2 => ?_)
      rw [e1] at g2 ⊢
      exact ih (by omega) X3 g1 g2
  have hk := key J (Nat.le_refl J) X1 hc1 (by rw [Nat.sub_self]; exact ha1.le (by omega) (by omega))
  rw [Nat.sub_self] at hk
  exact hk

set_option maxRecDepth 100000 in
set_option maxHeartbeats 400000 in
theorem ct_L_spread_0 (M : Mem) (t : TS) (r0 c0 wr wc : Int) (hX32 : ∀ j : Int, 0 ≤ j → j < 5 → 3 ≤ M 32 j ∧ M 32 j ≤ 7) (hF : p4F (M 38) t) (hT : p4T (M 40) t) (hO : TOk t) (hi0 : inT t r0 c0 = true) (hiw : inT t wr wc = true) : zCtA yL_spread (KL_spread 38 40) 145 1740 [zR 38, zR 40, zI r0, zI c0, zI 0, zI wr, zI wc] M (fun v M' => v = some (spR t r0 c0 2 wr wc) ∧ M' = M) := by
  have hT1 := hT.1
  have hT2 := hT.2.1
  have hO' := hO
  obtain ⟨hO1, hO2, hO3, hO4, hO5⟩ := hO'
  have ht12 : tH t ≤ 12 ∧ tW t ≤ 12 := ⟨hO2, hO4⟩
  have hib0 := inT_bd hi0
  have hibw := inT_bd hiw
  refine z_metA (by decide) rfl (Nat.le_of_ble_eq_true rfl) (fun X hc he => ?_)
  have hcap : zCap X 145 1740 := he.cap
  have hn43 : zNI 43 X := he.ni (by decide)
  have hn44 : zNI 44 X := he.ni (by decide)
  have ha : zAl 45 0 0 X X := he.al (by decide)
  obtain ⟨J, hJ1, hJ, hgz, hgp⟩ := gr_stop (t := t) (r0 := r0) (c0 := c0) (e := 2) ht12 hi0
  show zJW X 0 [(0, zR 38), (1, zR 40), (2, zI r0), (3, zI c0), (4, zI 0), (5, zI wr), (6, zI wc)] [] M
  refine z_bipush (pc := 0) hc 12 (by decide) dL_spread_0 ?_
  refine z_newa (pc := 2) (K' := KLs1) (k := 43) (N := 12) hc ha ⟨rfl, rfl, rfl, rfl, rfl, rfl⟩ (fun i hi => by simp only [Bool.or_eq_true, decide_eq_true_eq] at hi ⊢; omega) hn43 (by decide) ⟨by decide, by decide⟩ rfl rfl (by decide) (hcap.le (by omega) (by omega)) (List.mem_filter.mpr ⟨List.mem_of_getElem? (i := 51) (by decide +kernel), rfl⟩) hX32 (zno_ok rfl) (zno_ok2 rfl) dL_spread_2 (fun X1 hc1 ha1 => ?_)
  show zJW X1 4 [(0, zR 38), (1, zR 40), (2, zI r0), (3, zI c0), (4, zI 0), (5, zI wr), (6, zI wc)] [zR 43] (zarn M 43)
  refine z_asw (pc := 4) (lv' := [(7, zR 43), (0, zR 38), (1, zR 40), (2, zI r0), (3, zI c0), (4, zI 0), (5, zI wr), (6, zI wc)]) hc1 rfl (Nat.le_of_ble_eq_true rfl) dL_spread_4 ?_
  refine z_alw (pc := 6) hc1 0 rfl dL_spread_6 ?_
  refine z_ild (pc := 8) hc1 3 rfl dL_spread_8 ?_
  refine z_iconst (pc := 9) hc1 1 dL_spread_9 ?_
  refine z_ild (pc := 10) hc1 4 rfl dL_spread_10 ?_
  refine z_ishl (pc := 11) hc1 dL_spread_11 ?_
  refine z_iast (pc := 12) hc1 (by decide) rfl rfl (by decide) (by omega) dL_spread_12 ?_
  refine z_bipush (pc := 13) hc1 (-6) (by decide) dL_spread_13 ?_
  refine z_isw (pc := 15) (lv' := [(8, zI (-6)), (7, zR 43), (0, zR 38), (1, zR 40), (2, zI r0), (3, zI c0), (4, zI 0), (5, zI wr), (6, zI wc)]) hc1 rfl (Nat.le_of_ble_eq_true rfl) dL_spread_15 ?_
  refine z_iconst (pc := 17) hc1 1 dL_spread_17 ?_
  refine z_isw (pc := 18) (lv' := [(9, zI 1), (8, zI (-6)), (7, zR 43), (0, zR 38), (1, zR 40), (2, zI r0), (3, zI c0), (4, zI 0), (5, zI wr), (6, zI wc)]) hc1 rfl (Nat.le_of_ble_eq_true rfl) dL_spread_18 ?_
  refine z_iconst (pc := 20) hc1 0 dL_spread_20 ?_
  refine z_isw (pc := 21) (lv' := [(10, zI 0), (9, zI 1), (8, zI (-6)), (7, zR 43), (0, zR 38), (1, zR 40), (2, zI r0), (3, zI c0), (4, zI 0), (5, zI wr), (6, zI wc)]) hc1 rfl (Nat.le_of_ble_eq_true rfl) dL_spread_21 ?_
  refine z_iconst (pc := 23) hc1 1 dL_spread_23 ?_
  refine z_isw (pc := 24) (lv' := [(11, zI 1), (10, zI 0), (9, zI 1), (8, zI (-6)), (7, zR 43), (0, zR 38), (1, zR 40), (2, zI r0), (3, zI c0), (4, zI 0), (5, zI wr), (6, zI wc)]) hc1 rfl (Nat.le_of_ble_eq_true rfl) dL_spread_24 ?_
  refine zJW_sub (lv' := [(11, zI 1), (10, zI 0), (9, zI 1), (8, zI (-6)), (7, zR 43), (0, zR 38), (1, zR 40), (2, zI r0), (3, zI c0), (4, zI 0), (5, zI wr), (6, zI wc)]) [0, 1, 2, 3, 4, 5, 6, 7, 8, 9, 10, 11] rfl ?_
  refine zJW_eq (lv' := [(11, zI (gr t r0 c0 2 0)), (10, zI ((0 : Nat) : Int)), (9, zI (cnS t r0 c0 2 0)), (8, zI (stS t r0 c0 2 wr wc 0)), (7, zR 43), (0, zR 38), (1, zR 40), (2, zI r0), (3, zI c0), (4, zI 0), (5, zI wr), (6, zI wc)]) (M' := hM M (Sb t r0 c0 2 0) (Bj t r0 c0 2 M 0)) ?_ rfl (hM_0 (S := (Sb t r0 c0 2 0)) (by omega) (by omega) (fun r' c' _ _ _ _ => Sb_0 (e := 2) ht12 hi0 r' c')) ?_
  · rw [cnS_0 ht12 hi0]
    rw [show stS t r0 c0 2 wr wc 0 = -6 from if_neg (by omega)]
    rfl
  have key : ∀ n, n ≤ J → ∀ X2 : CX, zCx KLs1 X2 → zAl 45 (1 + (J - n)) (12 + 12 * (J - n)) X X2 → zJW X2 26 [(11, zI (gr t r0 c0 2 (J - n))), (10, zI ((J - n : Nat) : Int)), (9, zI (cnS t r0 c0 2 (J - n))), (8, zI (stS t r0 c0 2 wr wc (J - n))), (7, zR 43), (0, zR 38), (1, zR 40), (2, zI r0), (3, zI c0), (4, zI 0), (5, zI wr), (6, zI wc)] [] (hM M (Sb t r0 c0 2 (J - n)) (Bj t r0 c0 2 M (J - n))) := by
    intro n
    induction n with
    | zero => intro _ X2 h1 h2; exact spr_end_0 h1 hX32 hF hT hO hi0 hiw J hJ1 hJ h2 he hgz
    | succ n ih =>
      intro hn X2 h1 h2
      have hlt : J - (n + 1) < J := by omega
      have e1 : J - (n + 1) + 1 = J - n := by omega
      refine spr_turn_0 h1 hX32 hF hT hO hi0 hiw (J - (n + 1)) (by omega) h2 hn44 hcap (hgp _ hlt) (fun X3 g1 g2 => ?_)
      rw [e1] at g2 ⊢
      exact ih (by omega) X3 g1 g2
  have hk := key J (Nat.le_refl J) X1 hc1 (by rw [Nat.sub_self]; exact ha1.le (by omega) (by omega))
  rw [Nat.sub_self] at hk
  exact hk

def sprE (b : Bool) : Nat := if b then 1 else 2
theorem ct_L_spread (M : Mem) (t : TS) (r0 c0 wr wc : Int) (hX32 : ∀ j : Int, 0 ≤ j → j < 5 → 3 ≤ M 32 j ∧ M 32 j ≤ 7) (hF : p4F (M 38) t) (hT : p4T (M 40) t) (hO : TOk t) (hi0 : inT t r0 c0 = true) (hiw : inT t wr wc = true) (b : Bool) : zCtA yL_spread (KL_spread 38 40) 145 1740 [zR 38, zR 40, zI r0, zI c0, zI (zbz b), zI wr, zI wc] M (fun v M' => v = some (spR t r0 c0 (sprE b) wr wc) ∧ M' = M) := by
  cases b
  · exact ct_L_spread_0 M t r0 c0 wr wc hX32 hF hT hO hi0 hiw
  · exact ct_L_spread_1 M t r0 c0 wr wc hX32 hF hT hO hi0 hiw
