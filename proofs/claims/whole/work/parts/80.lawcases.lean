set_option maxRecDepth 100000 in
set_option maxHeartbeats 4000000 in
theorem zlaw_begin {X : CX} {L : Nat} {xs : Nat → Int32} {M : Mem} (hc : zCx KL_law X) (hs : zSc X L xs) (hL : L ≤ 2560) (i : Int) (hi : 0 ≤ i ∧ i + 5 ≤ L) (h : SR M) (ih : ∀ M' : Mem, SR M' → zJW X 18 [(3, zI (i + 5)), (2, zR 38), (1, zR 27), (0, zR 60)] [] M') : zJW X 196 [(3, zI i), (2, zR 38), (1, zR 27), (0, zR 60)] [] M := by
  refine z_ald (pc := 196) hc 2 rfl dL_law_196 ?_
  refine z_ald (pc := 197) hc 3 rfl dL_law_197 ?_
  refine z_ild (pc := 198) hc 0 rfl dL_law_198 ?_
  refine z_iconst (pc := 199) hc 1 dL_law_199 ?_
  refine z_iadd (pc := 200) hc dL_law_200 ?_
  refine z_sld (pc := 201) hc hs (by omega) hL dL_law_201 ?_
  refine z_ald (pc := 202) hc 3 rfl dL_law_202 ?_
  refine z_ild (pc := 203) hc 0 rfl dL_law_203 ?_
  refine z_iconst (pc := 204) hc 2 dL_law_204 ?_
  refine z_iadd (pc := 205) hc dL_law_205 ?_
  refine z_sld (pc := 206) hc hs (by omega) hL dL_law_206 ?_
  refine kc_L_13 (pc := 207) hc rfl (zfitLX (by decide) rfl) rfl (Nat.le_of_ble_eq_true rfl) (cx_begin M h.1 (zsx xs (i + 1)) (zsx_bd xs _) (zsx xs (i + 2)) (zsx_bd xs _)) dL_law_207 ?_
  refine z_ald (pc := 210) hc 1 rfl dL_law_210 ?_
  refine z_ald (pc := 211) hc 3 rfl dL_law_211 ?_
  refine z_ild (pc := 212) hc 0 rfl dL_law_212 ?_
  refine z_iconst (pc := 213) hc 1 dL_law_213 ?_
  refine z_iadd (pc := 214) hc dL_law_214 ?_
  refine z_sld (pc := 215) hc hs (by omega) hL dL_law_215 ?_
  refine z_ald (pc := 216) hc 3 rfl dL_law_216 ?_
  refine z_ild (pc := 217) hc 0 rfl dL_law_217 ?_
  refine z_iconst (pc := 218) hc 2 dL_law_218 ?_
  refine z_iadd (pc := 219) hc dL_law_219 ?_
  refine z_sld (pc := 220) hc hs (by omega) hL dL_law_220 ?_
  refine kc_L_17 (pc := 221) hc rfl (zfitLR (by decide) rfl) rfl (Nat.le_of_ble_eq_true rfl) (cr_begin (xM_begin M (zsx xs (i + 1)) (zsx xs (i + 2))) (zop_begin h (zsx xs (i + 1)) (zsx xs (i + 2))).1 (zsx xs (i + 1)) (zsx_bd xs _) (zsx xs (i + 2)) (zsx_bd xs _)) dL_law_221 ?_
  rw [(zop_begin h (zsx xs (i + 1)) (zsx xs (i + 2))).2.1]
  refine z_same (pc := 224) (tgt := 1177) hc (by decide) dL_law_224 ?_
  refine z_iinc (pc := 1177) (lv' := [(3, zI (i + 5)), (2, zR 38), (1, zR 27), (0, zR 60)]) hc 0 rfl rfl (by decide) dL_law_1177 ?_
  refine z_goto (pc := 1180) (tgt := 18) hc (by decide) dL_law_1180 ?_
  exact ih _ (zop_begin h (zsx xs (i + 1)) (zsx xs (i + 2))).2.2

set_option maxRecDepth 100000 in
set_option maxHeartbeats 4000000 in
theorem zlaw_setOutside {X : CX} {L : Nat} {xs : Nat → Int32} {M : Mem} (hc : zCx KL_law X) (hs : zSc X L xs) (hL : L ≤ 2560) (i : Int) (hi : 0 ≤ i ∧ i + 5 ≤ L) (h : SR M) (ih : ∀ M' : Mem, SR M' → zJW X 18 [(3, zI (i + 5)), (2, zR 38), (1, zR 27), (0, zR 60)] [] M') : zJW X 229 [(3, zI i), (2, zR 38), (1, zR 27), (0, zR 60)] [] M := by
  refine z_ald (pc := 229) hc 2 rfl dL_law_229 ?_
  refine z_ald (pc := 230) hc 3 rfl dL_law_230 ?_
  refine z_ild (pc := 231) hc 0 rfl dL_law_231 ?_
  refine z_iconst (pc := 232) hc 1 dL_law_232 ?_
  refine z_iadd (pc := 233) hc dL_law_233 ?_
  refine z_sld (pc := 234) hc hs (by omega) hL dL_law_234 ?_
  have hJ243 : zJW X 243 [(3, zI i), (2, zR 38), (1, zR 27), (0, zR 60)] [zI (zbz (decide ((zsx xs (i + 1)) ≠ 0))), zR 27] M := by
    refine kc_L_18 (pc := 243) hc rfl (zfitLX (by decide) rfl) rfl (Nat.le_of_ble_eq_true rfl) (cx_setOutside M h.1 (decide ((zsx xs (i + 1)) ≠ 0))) dL_law_243 ?_
    refine z_ald (pc := 246) hc 1 rfl dL_law_246 ?_
    refine z_ald (pc := 247) hc 3 rfl dL_law_247 ?_
    refine z_ild (pc := 248) hc 0 rfl dL_law_248 ?_
    refine z_iconst (pc := 249) hc 1 dL_law_249 ?_
    refine z_iadd (pc := 250) hc dL_law_250 ?_
    refine z_sld (pc := 251) hc hs (by omega) hL dL_law_251 ?_
    have hJ260 : zJW X 260 [(3, zI i), (2, zR 38), (1, zR 27), (0, zR 60)] [zI (zbz (decide ((zsx xs (i + 1)) ≠ 0))), zR 38, zI (xR_setOutside M (decide ((zsx xs (i + 1)) ≠ 0)))] (xM_setOutside M (decide ((zsx xs (i + 1)) ≠ 0))) := by
      refine kc_L_22 (pc := 260) hc rfl (zfitLR (by decide) rfl) rfl (Nat.le_of_ble_eq_true rfl) (cr_setOutside (xM_setOutside M (decide ((zsx xs (i + 1)) ≠ 0))) (zop_setOutside h (decide ((zsx xs (i + 1)) ≠ 0))).1 (decide ((zsx xs (i + 1)) ≠ 0))) dL_law_260 ?_
      rw [(zop_setOutside h (decide ((zsx xs (i + 1)) ≠ 0))).2.1]
      refine z_same (pc := 263) (tgt := 1177) hc (by decide) dL_law_263 ?_
      refine z_iinc (pc := 1177) (lv' := [(3, zI (i + 5)), (2, zR 38), (1, zR 27), (0, zR 60)]) hc 0 rfl rfl (by decide) dL_law_1177 ?_
      refine z_goto (pc := 1180) (tgt := 18) hc (by decide) dL_law_1180 ?_
      exact ih _ (zop_setOutside h (decide ((zsx xs (i + 1)) ≠ 0))).2.2
    refine z_ieq (pc := 252) (tgt := 259) hc (zsx_bd xs _) (by decide) dL_law_252 (fun h252 => ?_) (fun h252 => ?_)
    · show zJW X 259 [(3, zI i), (2, zR 38), (1, zR 27), (0, zR 60)] [zR 38, zI (xR_setOutside M (decide ((zsx xs (i + 1)) ≠ 0)))] (xM_setOutside M (decide ((zsx xs (i + 1)) ≠ 0)))
      refine z_iconst (pc := 259) hc 0 dL_law_259 ?_
      exact zJW_eq (by rfl) (by first | (rw [decide_eq_true (show (zsx xs (i + 1)) ≠ 0 by omega)] <;> rfl) | (rw [decide_eq_false (show ¬ (zsx xs (i + 1)) ≠ 0 by omega)] <;> rfl)) (by rfl) hJ260
    · show zJW X 255 [(3, zI i), (2, zR 38), (1, zR 27), (0, zR 60)] [zR 38, zI (xR_setOutside M (decide ((zsx xs (i + 1)) ≠ 0)))] (xM_setOutside M (decide ((zsx xs (i + 1)) ≠ 0)))
      refine z_iconst (pc := 255) hc 1 dL_law_255 ?_
      refine z_goto (pc := 256) (tgt := 260) hc (by decide) dL_law_256 ?_
      exact zJW_eq (by rfl) (by first | (rw [decide_eq_true (show (zsx xs (i + 1)) ≠ 0 by omega)] <;> rfl) | (rw [decide_eq_false (show ¬ (zsx xs (i + 1)) ≠ 0 by omega)] <;> rfl)) (by rfl) hJ260
  refine z_ieq (pc := 235) (tgt := 242) hc (zsx_bd xs _) (by decide) dL_law_235 (fun h235 => ?_) (fun h235 => ?_)
  · show zJW X 242 [(3, zI i), (2, zR 38), (1, zR 27), (0, zR 60)] [zR 27] M
    refine z_iconst (pc := 242) hc 0 dL_law_242 ?_
    exact zJW_eq (by rfl) (by first | (rw [decide_eq_true (show (zsx xs (i + 1)) ≠ 0 by omega)] <;> rfl) | (rw [decide_eq_false (show ¬ (zsx xs (i + 1)) ≠ 0 by omega)] <;> rfl)) (by rfl) hJ243
  · show zJW X 238 [(3, zI i), (2, zR 38), (1, zR 27), (0, zR 60)] [zR 27] M
    refine z_iconst (pc := 238) hc 1 dL_law_238 ?_
    refine z_goto (pc := 239) (tgt := 243) hc (by decide) dL_law_239 ?_
    exact zJW_eq (by rfl) (by first | (rw [decide_eq_true (show (zsx xs (i + 1)) ≠ 0 by omega)] <;> rfl) | (rw [decide_eq_false (show ¬ (zsx xs (i + 1)) ≠ 0 by omega)] <;> rfl)) (by rfl) hJ243

set_option maxRecDepth 100000 in
set_option maxHeartbeats 4000000 in
theorem zlaw_set {X : CX} {L : Nat} {xs : Nat → Int32} {M : Mem} (hc : zCx KL_law X) (hs : zSc X L xs) (hL : L ≤ 2560) (i : Int) (hi : 0 ≤ i ∧ i + 5 ≤ L) (h : SR M) (ih : ∀ M' : Mem, SR M' → zJW X 18 [(3, zI (i + 5)), (2, zR 38), (1, zR 27), (0, zR 60)] [] M') : zJW X 268 [(3, zI i), (2, zR 38), (1, zR 27), (0, zR 60)] [] M := by
  refine z_ald (pc := 268) hc 2 rfl dL_law_268 ?_
  refine z_ald (pc := 269) hc 3 rfl dL_law_269 ?_
  refine z_ild (pc := 270) hc 0 rfl dL_law_270 ?_
  refine z_iconst (pc := 271) hc 1 dL_law_271 ?_
  refine z_iadd (pc := 272) hc dL_law_272 ?_
  refine z_sld (pc := 273) hc hs (by omega) hL dL_law_273 ?_
  refine z_ald (pc := 274) hc 3 rfl dL_law_274 ?_
  refine z_ild (pc := 275) hc 0 rfl dL_law_275 ?_
  refine z_iconst (pc := 276) hc 2 dL_law_276 ?_
  refine z_iadd (pc := 277) hc dL_law_277 ?_
  refine z_sld (pc := 278) hc hs (by omega) hL dL_law_278 ?_
  refine z_ald (pc := 279) hc 3 rfl dL_law_279 ?_
  refine z_ild (pc := 280) hc 0 rfl dL_law_280 ?_
  refine z_iconst (pc := 281) hc 3 dL_law_281 ?_
  refine z_iadd (pc := 282) hc dL_law_282 ?_
  refine z_sld (pc := 283) hc hs (by omega) hL dL_law_283 ?_
  have hJ292 : zJW X 292 [(3, zI i), (2, zR 38), (1, zR 27), (0, zR 60)] [zI (zbz (decide ((zsx xs (i + 3)) ≠ 0))), zI (zsx xs (i + 2)), zI (zsx xs (i + 1)), zR 27] M := by
    refine kc_L_23 (pc := 292) hc rfl (zfitLX (by decide) rfl) rfl (Nat.le_of_ble_eq_true rfl) (cx_set M h.1 (zsx xs (i + 1)) (zsx_bd xs _) (zsx xs (i + 2)) (zsx_bd xs _) (decide ((zsx xs (i + 3)) ≠ 0))) dL_law_292 ?_
    refine z_ald (pc := 295) hc 1 rfl dL_law_295 ?_
    refine z_ald (pc := 296) hc 3 rfl dL_law_296 ?_
    refine z_ild (pc := 297) hc 0 rfl dL_law_297 ?_
    refine z_iconst (pc := 298) hc 1 dL_law_298 ?_
    refine z_iadd (pc := 299) hc dL_law_299 ?_
    refine z_sld (pc := 300) hc hs (by omega) hL dL_law_300 ?_
    refine z_ald (pc := 301) hc 3 rfl dL_law_301 ?_
    refine z_ild (pc := 302) hc 0 rfl dL_law_302 ?_
    refine z_iconst (pc := 303) hc 2 dL_law_303 ?_
    refine z_iadd (pc := 304) hc dL_law_304 ?_
    refine z_sld (pc := 305) hc hs (by omega) hL dL_law_305 ?_
    refine z_ald (pc := 306) hc 3 rfl dL_law_306 ?_
    refine z_ild (pc := 307) hc 0 rfl dL_law_307 ?_
    refine z_iconst (pc := 308) hc 3 dL_law_308 ?_
    refine z_iadd (pc := 309) hc dL_law_309 ?_
    refine z_sld (pc := 310) hc hs (by omega) hL dL_law_310 ?_
    have hJ319 : zJW X 319 [(3, zI i), (2, zR 38), (1, zR 27), (0, zR 60)] [zI (zbz (decide ((zsx xs (i + 3)) ≠ 0))), zI (zsx xs (i + 2)), zI (zsx xs (i + 1)), zR 38, zI (xR_set M (zsx xs (i + 1)) (zsx xs (i + 2)) (decide ((zsx xs (i + 3)) ≠ 0)))] (xM_set M (zsx xs (i + 1)) (zsx xs (i + 2)) (decide ((zsx xs (i + 3)) ≠ 0))) := by
      refine kc_L_27 (pc := 319) hc rfl (zfitLR (by decide) rfl) rfl (Nat.le_of_ble_eq_true rfl) (cr_set (xM_set M (zsx xs (i + 1)) (zsx xs (i + 2)) (decide ((zsx xs (i + 3)) ≠ 0))) (zop_set h (zsx xs (i + 1)) (zsx xs (i + 2)) (decide ((zsx xs (i + 3)) ≠ 0))).1 (zsx xs (i + 1)) (zsx_bd xs _) (zsx xs (i + 2)) (zsx_bd xs _) (decide ((zsx xs (i + 3)) ≠ 0))) dL_law_319 ?_
      rw [(zop_set h (zsx xs (i + 1)) (zsx xs (i + 2)) (decide ((zsx xs (i + 3)) ≠ 0))).2.1]
      refine z_same (pc := 322) (tgt := 1177) hc (by decide) dL_law_322 ?_
      refine z_iinc (pc := 1177) (lv' := [(3, zI (i + 5)), (2, zR 38), (1, zR 27), (0, zR 60)]) hc 0 rfl rfl (by decide) dL_law_1177 ?_
      refine z_goto (pc := 1180) (tgt := 18) hc (by decide) dL_law_1180 ?_
      exact ih _ (zop_set h (zsx xs (i + 1)) (zsx xs (i + 2)) (decide ((zsx xs (i + 3)) ≠ 0))).2.2
    refine z_ieq (pc := 311) (tgt := 318) hc (zsx_bd xs _) (by decide) dL_law_311 (fun h311 => ?_) (fun h311 => ?_)
    · show zJW X 318 [(3, zI i), (2, zR 38), (1, zR 27), (0, zR 60)] [zI (zsx xs (i + 2)), zI (zsx xs (i + 1)), zR 38, zI (xR_set M (zsx xs (i + 1)) (zsx xs (i + 2)) (decide ((zsx xs (i + 3)) ≠ 0)))] (xM_set M (zsx xs (i + 1)) (zsx xs (i + 2)) (decide ((zsx xs (i + 3)) ≠ 0)))
      refine z_iconst (pc := 318) hc 0 dL_law_318 ?_
      exact zJW_eq (by rfl) (by first | (rw [decide_eq_true (show (zsx xs (i + 3)) ≠ 0 by omega)] <;> rfl) | (rw [decide_eq_false (show ¬ (zsx xs (i + 3)) ≠ 0 by omega)] <;> rfl)) (by rfl) hJ319
    · show zJW X 314 [(3, zI i), (2, zR 38), (1, zR 27), (0, zR 60)] [zI (zsx xs (i + 2)), zI (zsx xs (i + 1)), zR 38, zI (xR_set M (zsx xs (i + 1)) (zsx xs (i + 2)) (decide ((zsx xs (i + 3)) ≠ 0)))] (xM_set M (zsx xs (i + 1)) (zsx xs (i + 2)) (decide ((zsx xs (i + 3)) ≠ 0)))
      refine z_iconst (pc := 314) hc 1 dL_law_314 ?_
      refine z_goto (pc := 315) (tgt := 319) hc (by decide) dL_law_315 ?_
      exact zJW_eq (by rfl) (by first | (rw [decide_eq_true (show (zsx xs (i + 3)) ≠ 0 by omega)] <;> rfl) | (rw [decide_eq_false (show ¬ (zsx xs (i + 3)) ≠ 0 by omega)] <;> rfl)) (by rfl) hJ319
  refine z_ieq (pc := 284) (tgt := 291) hc (zsx_bd xs _) (by decide) dL_law_284 (fun h284 => ?_) (fun h284 => ?_)
  · show zJW X 291 [(3, zI i), (2, zR 38), (1, zR 27), (0, zR 60)] [zI (zsx xs (i + 2)), zI (zsx xs (i + 1)), zR 27] M
    refine z_iconst (pc := 291) hc 0 dL_law_291 ?_
    exact zJW_eq (by rfl) (by first | (rw [decide_eq_true (show (zsx xs (i + 3)) ≠ 0 by omega)] <;> rfl) | (rw [decide_eq_false (show ¬ (zsx xs (i + 3)) ≠ 0 by omega)] <;> rfl)) (by rfl) hJ292
  · show zJW X 287 [(3, zI i), (2, zR 38), (1, zR 27), (0, zR 60)] [zI (zsx xs (i + 2)), zI (zsx xs (i + 1)), zR 27] M
    refine z_iconst (pc := 287) hc 1 dL_law_287 ?_
    refine z_goto (pc := 288) (tgt := 292) hc (by decide) dL_law_288 ?_
    exact zJW_eq (by rfl) (by first | (rw [decide_eq_true (show (zsx xs (i + 3)) ≠ 0 by omega)] <;> rfl) | (rw [decide_eq_false (show ¬ (zsx xs (i + 3)) ≠ 0 by omega)] <;> rfl)) (by rfl) hJ292

set_option maxRecDepth 100000 in
set_option maxHeartbeats 4000000 in
theorem zlaw_fill {X : CX} {L : Nat} {xs : Nat → Int32} {M : Mem} (hc : zCx KL_law X) (hs : zSc X L xs) (hL : L ≤ 2560) (i : Int) (hi : 0 ≤ i ∧ i + 5 ≤ L) (h : SR M) (ih : ∀ M' : Mem, SR M' → zJW X 18 [(3, zI (i + 5)), (2, zR 38), (1, zR 27), (0, zR 60)] [] M') : zJW X 327 [(3, zI i), (2, zR 38), (1, zR 27), (0, zR 60)] [] M := by
  refine z_ald (pc := 327) hc 2 rfl dL_law_327 ?_
  refine z_ald (pc := 328) hc 3 rfl dL_law_328 ?_
  refine z_ild (pc := 329) hc 0 rfl dL_law_329 ?_
  refine z_iconst (pc := 330) hc 1 dL_law_330 ?_
  refine z_iadd (pc := 331) hc dL_law_331 ?_
  refine z_sld (pc := 332) hc hs (by omega) hL dL_law_332 ?_
  refine z_ald (pc := 333) hc 3 rfl dL_law_333 ?_
  refine z_ild (pc := 334) hc 0 rfl dL_law_334 ?_
  refine z_iconst (pc := 335) hc 2 dL_law_335 ?_
  refine z_iadd (pc := 336) hc dL_law_336 ?_
  refine z_sld (pc := 337) hc hs (by omega) hL dL_law_337 ?_
  refine z_ald (pc := 338) hc 3 rfl dL_law_338 ?_
  refine z_ild (pc := 339) hc 0 rfl dL_law_339 ?_
  refine z_iconst (pc := 340) hc 3 dL_law_340 ?_
  refine z_iadd (pc := 341) hc dL_law_341 ?_
  refine z_sld (pc := 342) hc hs (by omega) hL dL_law_342 ?_
  have hJ351 : zJW X 351 [(3, zI i), (2, zR 38), (1, zR 27), (0, zR 60)] [zI (zbz (decide ((zsx xs (i + 3)) ≠ 0))), zI (zsx xs (i + 2)), zI (zsx xs (i + 1)), zR 27] M := by
    refine kc_L_28 (pc := 351) hc rfl (zfitLX (by decide) rfl) rfl (Nat.le_of_ble_eq_true rfl) (cx_fill M h.1 (zsx xs (i + 1)) (zsx_bd xs _) (zsx xs (i + 2)) (zsx_bd xs _) (decide ((zsx xs (i + 3)) ≠ 0))) dL_law_351 ?_
    refine z_ald (pc := 354) hc 1 rfl dL_law_354 ?_
    refine z_ald (pc := 355) hc 3 rfl dL_law_355 ?_
    refine z_ild (pc := 356) hc 0 rfl dL_law_356 ?_
    refine z_iconst (pc := 357) hc 1 dL_law_357 ?_
    refine z_iadd (pc := 358) hc dL_law_358 ?_
    refine z_sld (pc := 359) hc hs (by omega) hL dL_law_359 ?_
    refine z_ald (pc := 360) hc 3 rfl dL_law_360 ?_
    refine z_ild (pc := 361) hc 0 rfl dL_law_361 ?_
    refine z_iconst (pc := 362) hc 2 dL_law_362 ?_
    refine z_iadd (pc := 363) hc dL_law_363 ?_
    refine z_sld (pc := 364) hc hs (by omega) hL dL_law_364 ?_
    refine z_ald (pc := 365) hc 3 rfl dL_law_365 ?_
    refine z_ild (pc := 366) hc 0 rfl dL_law_366 ?_
    refine z_iconst (pc := 367) hc 3 dL_law_367 ?_
    refine z_iadd (pc := 368) hc dL_law_368 ?_
    refine z_sld (pc := 369) hc hs (by omega) hL dL_law_369 ?_
    have hJ378 : zJW X 378 [(3, zI i), (2, zR 38), (1, zR 27), (0, zR 60)] [zI (zbz (decide ((zsx xs (i + 3)) ≠ 0))), zI (zsx xs (i + 2)), zI (zsx xs (i + 1)), zR 38, zI (xR_fill M (zsx xs (i + 1)) (zsx xs (i + 2)) (decide ((zsx xs (i + 3)) ≠ 0)))] (xM_fill M (zsx xs (i + 1)) (zsx xs (i + 2)) (decide ((zsx xs (i + 3)) ≠ 0))) := by
      refine kc_L_31 (pc := 378) hc rfl (zfitLR (by decide) rfl) rfl (Nat.le_of_ble_eq_true rfl) (cr_fill (xM_fill M (zsx xs (i + 1)) (zsx xs (i + 2)) (decide ((zsx xs (i + 3)) ≠ 0))) (zop_fill h (zsx xs (i + 1)) (zsx xs (i + 2)) (decide ((zsx xs (i + 3)) ≠ 0))).1 (zsx xs (i + 1)) (zsx_bd xs _) (zsx xs (i + 2)) (zsx_bd xs _) (decide ((zsx xs (i + 3)) ≠ 0))) dL_law_378 ?_
      rw [(zop_fill h (zsx xs (i + 1)) (zsx xs (i + 2)) (decide ((zsx xs (i + 3)) ≠ 0))).2.1]
      refine z_same (pc := 381) (tgt := 1177) hc (by decide) dL_law_381 ?_
      refine z_iinc (pc := 1177) (lv' := [(3, zI (i + 5)), (2, zR 38), (1, zR 27), (0, zR 60)]) hc 0 rfl rfl (by decide) dL_law_1177 ?_
      refine z_goto (pc := 1180) (tgt := 18) hc (by decide) dL_law_1180 ?_
      exact ih _ (zop_fill h (zsx xs (i + 1)) (zsx xs (i + 2)) (decide ((zsx xs (i + 3)) ≠ 0))).2.2
    refine z_ieq (pc := 370) (tgt := 377) hc (zsx_bd xs _) (by decide) dL_law_370 (fun h370 => ?_) (fun h370 => ?_)
    · show zJW X 377 [(3, zI i), (2, zR 38), (1, zR 27), (0, zR 60)] [zI (zsx xs (i + 2)), zI (zsx xs (i + 1)), zR 38, zI (xR_fill M (zsx xs (i + 1)) (zsx xs (i + 2)) (decide ((zsx xs (i + 3)) ≠ 0)))] (xM_fill M (zsx xs (i + 1)) (zsx xs (i + 2)) (decide ((zsx xs (i + 3)) ≠ 0)))
      refine z_iconst (pc := 377) hc 0 dL_law_377 ?_
      exact zJW_eq (by rfl) (by first | (rw [decide_eq_true (show (zsx xs (i + 3)) ≠ 0 by omega)] <;> rfl) | (rw [decide_eq_false (show ¬ (zsx xs (i + 3)) ≠ 0 by omega)] <;> rfl)) (by rfl) hJ378
    · show zJW X 373 [(3, zI i), (2, zR 38), (1, zR 27), (0, zR 60)] [zI (zsx xs (i + 2)), zI (zsx xs (i + 1)), zR 38, zI (xR_fill M (zsx xs (i + 1)) (zsx xs (i + 2)) (decide ((zsx xs (i + 3)) ≠ 0)))] (xM_fill M (zsx xs (i + 1)) (zsx xs (i + 2)) (decide ((zsx xs (i + 3)) ≠ 0)))
      refine z_iconst (pc := 373) hc 1 dL_law_373 ?_
      refine z_goto (pc := 374) (tgt := 378) hc (by decide) dL_law_374 ?_
      exact zJW_eq (by rfl) (by first | (rw [decide_eq_true (show (zsx xs (i + 3)) ≠ 0 by omega)] <;> rfl) | (rw [decide_eq_false (show ¬ (zsx xs (i + 3)) ≠ 0 by omega)] <;> rfl)) (by rfl) hJ378
  refine z_ieq (pc := 343) (tgt := 350) hc (zsx_bd xs _) (by decide) dL_law_343 (fun h343 => ?_) (fun h343 => ?_)
  · show zJW X 350 [(3, zI i), (2, zR 38), (1, zR 27), (0, zR 60)] [zI (zsx xs (i + 2)), zI (zsx xs (i + 1)), zR 27] M
    refine z_iconst (pc := 350) hc 0 dL_law_350 ?_
    exact zJW_eq (by rfl) (by first | (rw [decide_eq_true (show (zsx xs (i + 3)) ≠ 0 by omega)] <;> rfl) | (rw [decide_eq_false (show ¬ (zsx xs (i + 3)) ≠ 0 by omega)] <;> rfl)) (by rfl) hJ351
  · show zJW X 346 [(3, zI i), (2, zR 38), (1, zR 27), (0, zR 60)] [zI (zsx xs (i + 2)), zI (zsx xs (i + 1)), zR 27] M
    refine z_iconst (pc := 346) hc 1 dL_law_346 ?_
    refine z_goto (pc := 347) (tgt := 351) hc (by decide) dL_law_347 ?_
    exact zJW_eq (by rfl) (by first | (rw [decide_eq_true (show (zsx xs (i + 3)) ≠ 0 by omega)] <;> rfl) | (rw [decide_eq_false (show ¬ (zsx xs (i + 3)) ≠ 0 by omega)] <;> rfl)) (by rfl) hJ351

set_option maxRecDepth 100000 in
set_option maxHeartbeats 4000000 in
theorem zlaw_brush {X : CX} {L : Nat} {xs : Nat → Int32} {M : Mem} (hc : zCx KL_law X) (hs : zSc X L xs) (hL : L ≤ 2560) (i : Int) (hi : 0 ≤ i ∧ i + 5 ≤ L) (h : SR M) (ih : ∀ M' : Mem, SR M' → zJW X 18 [(3, zI (i + 5)), (2, zR 38), (1, zR 27), (0, zR 60)] [] M') : zJW X 386 [(3, zI i), (2, zR 38), (1, zR 27), (0, zR 60)] [] M := by
  refine z_ald (pc := 386) hc 2 rfl dL_law_386 ?_
  refine z_ald (pc := 387) hc 3 rfl dL_law_387 ?_
  refine z_ild (pc := 388) hc 0 rfl dL_law_388 ?_
  refine z_iconst (pc := 389) hc 1 dL_law_389 ?_
  refine z_iadd (pc := 390) hc dL_law_390 ?_
  refine z_sld (pc := 391) hc hs (by omega) hL dL_law_391 ?_
  refine z_ald (pc := 392) hc 3 rfl dL_law_392 ?_
  refine z_ild (pc := 393) hc 0 rfl dL_law_393 ?_
  refine z_iconst (pc := 394) hc 2 dL_law_394 ?_
  refine z_iadd (pc := 395) hc dL_law_395 ?_
  refine z_sld (pc := 396) hc hs (by omega) hL dL_law_396 ?_
  refine z_ald (pc := 397) hc 3 rfl dL_law_397 ?_
  refine z_ild (pc := 398) hc 0 rfl dL_law_398 ?_
  refine z_iconst (pc := 399) hc 3 dL_law_399 ?_
  refine z_iadd (pc := 400) hc dL_law_400 ?_
  refine z_sld (pc := 401) hc hs (by omega) hL dL_law_401 ?_
  refine z_ald (pc := 402) hc 3 rfl dL_law_402 ?_
  refine z_ild (pc := 403) hc 0 rfl dL_law_403 ?_
  refine z_iconst (pc := 404) hc 4 dL_law_404 ?_
  refine z_iadd (pc := 405) hc dL_law_405 ?_
  refine z_sld (pc := 406) hc hs (by omega) hL dL_law_406 ?_
  have hJ415 : zJW X 415 [(3, zI i), (2, zR 38), (1, zR 27), (0, zR 60)] [zI (zbz (decide ((zsx xs (i + 4)) ≠ 0))), zI (zsx xs (i + 3)), zI (zsx xs (i + 2)), zI (zsx xs (i + 1)), zR 27] M := by
    refine kc_L_32 (pc := 415) hc rfl (zfitLX (by decide) rfl) rfl (Nat.le_of_ble_eq_true rfl) (cx_brush M h.1 (zsx xs (i + 1)) (zsx_bd xs _) (zsx xs (i + 2)) (zsx_bd xs _) (zsx xs (i + 3)) (zsx_bd xs _) (decide ((zsx xs (i + 4)) ≠ 0))) dL_law_415 ?_
    refine z_ald (pc := 418) hc 1 rfl dL_law_418 ?_
    refine z_ald (pc := 419) hc 3 rfl dL_law_419 ?_
    refine z_ild (pc := 420) hc 0 rfl dL_law_420 ?_
    refine z_iconst (pc := 421) hc 1 dL_law_421 ?_
    refine z_iadd (pc := 422) hc dL_law_422 ?_
    refine z_sld (pc := 423) hc hs (by omega) hL dL_law_423 ?_
    refine z_ald (pc := 424) hc 3 rfl dL_law_424 ?_
    refine z_ild (pc := 425) hc 0 rfl dL_law_425 ?_
    refine z_iconst (pc := 426) hc 2 dL_law_426 ?_
    refine z_iadd (pc := 427) hc dL_law_427 ?_
    refine z_sld (pc := 428) hc hs (by omega) hL dL_law_428 ?_
    refine z_ald (pc := 429) hc 3 rfl dL_law_429 ?_
    refine z_ild (pc := 430) hc 0 rfl dL_law_430 ?_
    refine z_iconst (pc := 431) hc 3 dL_law_431 ?_
    refine z_iadd (pc := 432) hc dL_law_432 ?_
    refine z_sld (pc := 433) hc hs (by omega) hL dL_law_433 ?_
    refine z_ald (pc := 434) hc 3 rfl dL_law_434 ?_
    refine z_ild (pc := 435) hc 0 rfl dL_law_435 ?_
    refine z_iconst (pc := 436) hc 4 dL_law_436 ?_
    refine z_iadd (pc := 437) hc dL_law_437 ?_
    refine z_sld (pc := 438) hc hs (by omega) hL dL_law_438 ?_
    have hJ447 : zJW X 447 [(3, zI i), (2, zR 38), (1, zR 27), (0, zR 60)] [zI (zbz (decide ((zsx xs (i + 4)) ≠ 0))), zI (zsx xs (i + 3)), zI (zsx xs (i + 2)), zI (zsx xs (i + 1)), zR 38, zI (xR_brush M (zsx xs (i + 1)) (zsx xs (i + 2)) (zsx xs (i + 3)) (decide ((zsx xs (i + 4)) ≠ 0)))] (xM_brush M (zsx xs (i + 1)) (zsx xs (i + 2)) (zsx xs (i + 3)) (decide ((zsx xs (i + 4)) ≠ 0))) := by
      refine kc_L_36 (pc := 447) hc rfl (zfitLR (by decide) rfl) rfl (Nat.le_of_ble_eq_true rfl) (cr_brush (xM_brush M (zsx xs (i + 1)) (zsx xs (i + 2)) (zsx xs (i + 3)) (decide ((zsx xs (i + 4)) ≠ 0))) (zop_brush h (zsx xs (i + 1)) (zsx xs (i + 2)) (zsx xs (i + 3)) (decide ((zsx xs (i + 4)) ≠ 0))).1 (zsx xs (i + 1)) (zsx_bd xs _) (zsx xs (i + 2)) (zsx_bd xs _) (zsx xs (i + 3)) (zsx_bd xs _) (decide ((zsx xs (i + 4)) ≠ 0))) dL_law_447 ?_
      rw [(zop_brush h (zsx xs (i + 1)) (zsx xs (i + 2)) (zsx xs (i + 3)) (decide ((zsx xs (i + 4)) ≠ 0))).2.1]
      refine z_same (pc := 450) (tgt := 1177) hc (by decide) dL_law_450 ?_
      refine z_iinc (pc := 1177) (lv' := [(3, zI (i + 5)), (2, zR 38), (1, zR 27), (0, zR 60)]) hc 0 rfl rfl (by decide) dL_law_1177 ?_
      refine z_goto (pc := 1180) (tgt := 18) hc (by decide) dL_law_1180 ?_
      exact ih _ (zop_brush h (zsx xs (i + 1)) (zsx xs (i + 2)) (zsx xs (i + 3)) (decide ((zsx xs (i + 4)) ≠ 0))).2.2
    refine z_ieq (pc := 439) (tgt := 446) hc (zsx_bd xs _) (by decide) dL_law_439 (fun h439 => ?_) (fun h439 => ?_)
    · show zJW X 446 [(3, zI i), (2, zR 38), (1, zR 27), (0, zR 60)] [zI (zsx xs (i + 3)), zI (zsx xs (i + 2)), zI (zsx xs (i + 1)), zR 38, zI (xR_brush M (zsx xs (i + 1)) (zsx xs (i + 2)) (zsx xs (i + 3)) (decide ((zsx xs (i + 4)) ≠ 0)))] (xM_brush M (zsx xs (i + 1)) (zsx xs (i + 2)) (zsx xs (i + 3)) (decide ((zsx xs (i + 4)) ≠ 0)))
      refine z_iconst (pc := 446) hc 0 dL_law_446 ?_
      exact zJW_eq (by rfl) (by first | (rw [decide_eq_true (show (zsx xs (i + 4)) ≠ 0 by omega)] <;> rfl) | (rw [decide_eq_false (show ¬ (zsx xs (i + 4)) ≠ 0 by omega)] <;> rfl)) (by rfl) hJ447
    · show zJW X 442 [(3, zI i), (2, zR 38), (1, zR 27), (0, zR 60)] [zI (zsx xs (i + 3)), zI (zsx xs (i + 2)), zI (zsx xs (i + 1)), zR 38, zI (xR_brush M (zsx xs (i + 1)) (zsx xs (i + 2)) (zsx xs (i + 3)) (decide ((zsx xs (i + 4)) ≠ 0)))] (xM_brush M (zsx xs (i + 1)) (zsx xs (i + 2)) (zsx xs (i + 3)) (decide ((zsx xs (i + 4)) ≠ 0)))
      refine z_iconst (pc := 442) hc 1 dL_law_442 ?_
      refine z_goto (pc := 443) (tgt := 447) hc (by decide) dL_law_443 ?_
      exact zJW_eq (by rfl) (by first | (rw [decide_eq_true (show (zsx xs (i + 4)) ≠ 0 by omega)] <;> rfl) | (rw [decide_eq_false (show ¬ (zsx xs (i + 4)) ≠ 0 by omega)] <;> rfl)) (by rfl) hJ447
  refine z_ieq (pc := 407) (tgt := 414) hc (zsx_bd xs _) (by decide) dL_law_407 (fun h407 => ?_) (fun h407 => ?_)
  · show zJW X 414 [(3, zI i), (2, zR 38), (1, zR 27), (0, zR 60)] [zI (zsx xs (i + 3)), zI (zsx xs (i + 2)), zI (zsx xs (i + 1)), zR 27] M
    refine z_iconst (pc := 414) hc 0 dL_law_414 ?_
    exact zJW_eq (by rfl) (by first | (rw [decide_eq_true (show (zsx xs (i + 4)) ≠ 0 by omega)] <;> rfl) | (rw [decide_eq_false (show ¬ (zsx xs (i + 4)) ≠ 0 by omega)] <;> rfl)) (by rfl) hJ415
  · show zJW X 410 [(3, zI i), (2, zR 38), (1, zR 27), (0, zR 60)] [zI (zsx xs (i + 3)), zI (zsx xs (i + 2)), zI (zsx xs (i + 1)), zR 27] M
    refine z_iconst (pc := 410) hc 1 dL_law_410 ?_
    refine z_goto (pc := 411) (tgt := 415) hc (by decide) dL_law_411 ?_
    exact zJW_eq (by rfl) (by first | (rw [decide_eq_true (show (zsx xs (i + 4)) ≠ 0 by omega)] <;> rfl) | (rw [decide_eq_false (show ¬ (zsx xs (i + 4)) ≠ 0 by omega)] <;> rfl)) (by rfl) hJ415

set_option maxRecDepth 100000 in
set_option maxHeartbeats 4000000 in
theorem zlaw_smooth {X : CX} {L : Nat} {xs : Nat → Int32} {M : Mem} (hc : zCx KL_law X) (hs : zSc X L xs) (hL : L ≤ 2560) (i : Int) (hi : 0 ≤ i ∧ i + 5 ≤ L) (h : SR M) (ih : ∀ M' : Mem, SR M' → zJW X 18 [(3, zI (i + 5)), (2, zR 38), (1, zR 27), (0, zR 60)] [] M') : zJW X 455 [(3, zI i), (2, zR 38), (1, zR 27), (0, zR 60)] [] M := by
  refine z_ald (pc := 455) hc 2 rfl dL_law_455 ?_
  refine z_ald (pc := 456) hc 3 rfl dL_law_456 ?_
  refine z_ild (pc := 457) hc 0 rfl dL_law_457 ?_
  refine z_iconst (pc := 458) hc 1 dL_law_458 ?_
  refine z_iadd (pc := 459) hc dL_law_459 ?_
  refine z_sld (pc := 460) hc hs (by omega) hL dL_law_460 ?_
  refine kc_L_37 (pc := 461) hc rfl (zfitLX (by decide) rfl) rfl (Nat.le_of_ble_eq_true rfl) (cx_smooth M h.1 (zsx xs (i + 1)) (zsx_bd xs _)) dL_law_461 ?_
  refine z_ald (pc := 464) hc 1 rfl dL_law_464 ?_
  refine z_ald (pc := 465) hc 3 rfl dL_law_465 ?_
  refine z_ild (pc := 466) hc 0 rfl dL_law_466 ?_
  refine z_iconst (pc := 467) hc 1 dL_law_467 ?_
  refine z_iadd (pc := 468) hc dL_law_468 ?_
  refine z_sld (pc := 469) hc hs (by omega) hL dL_law_469 ?_
  refine kc_L_41 (pc := 470) hc rfl (zfitLR (by decide) rfl) rfl (Nat.le_of_ble_eq_true rfl) (cr_smooth (xM_smooth M (zsx xs (i + 1))) (zop_smooth h (zsx xs (i + 1))).1 (zsx xs (i + 1)) (zsx_bd xs _)) dL_law_470 ?_
  rw [(zop_smooth h (zsx xs (i + 1))).2.1]
  refine z_same (pc := 473) (tgt := 1177) hc (by decide) dL_law_473 ?_
  refine z_iinc (pc := 1177) (lv' := [(3, zI (i + 5)), (2, zR 38), (1, zR 27), (0, zR 60)]) hc 0 rfl rfl (by decide) dL_law_1177 ?_
  refine z_goto (pc := 1180) (tgt := 18) hc (by decide) dL_law_1180 ?_
  exact ih _ (zop_smooth h (zsx xs (i + 1))).2.2

set_option maxRecDepth 100000 in
set_option maxHeartbeats 4000000 in
theorem zlaw_turn {X : CX} {L : Nat} {xs : Nat → Int32} {M : Mem} (hc : zCx KL_law X) (hs : zSc X L xs) (hL : L ≤ 2560) (i : Int) (hi : 0 ≤ i ∧ i + 5 ≤ L) (h : SR M) (ih : ∀ M' : Mem, SR M' → zJW X 18 [(3, zI (i + 5)), (2, zR 38), (1, zR 27), (0, zR 60)] [] M') : zJW X 478 [(3, zI i), (2, zR 38), (1, zR 27), (0, zR 60)] [] M := by
  refine z_ald (pc := 478) hc 2 rfl dL_law_478 ?_
  refine z_ald (pc := 479) hc 3 rfl dL_law_479 ?_
  refine z_ild (pc := 480) hc 0 rfl dL_law_480 ?_
  refine z_iconst (pc := 481) hc 1 dL_law_481 ?_
  refine z_iadd (pc := 482) hc dL_law_482 ?_
  refine z_sld (pc := 483) hc hs (by omega) hL dL_law_483 ?_
  refine kc_L_42 (pc := 484) hc rfl (zfitLX (by decide) rfl) rfl (Nat.le_of_ble_eq_true rfl) (cx_turn M h.1 (zsx xs (i + 1)) (zsx_bd xs _)) dL_law_484 ?_
  refine z_ald (pc := 487) hc 1 rfl dL_law_487 ?_
  refine z_ald (pc := 488) hc 3 rfl dL_law_488 ?_
  refine z_ild (pc := 489) hc 0 rfl dL_law_489 ?_
  refine z_iconst (pc := 490) hc 1 dL_law_490 ?_
  refine z_iadd (pc := 491) hc dL_law_491 ?_
  refine z_sld (pc := 492) hc hs (by omega) hL dL_law_492 ?_
  refine kc_L_45 (pc := 493) hc rfl (zfitLR (by decide) rfl) rfl (Nat.le_of_ble_eq_true rfl) (cr_turn (xM_turn M (zsx xs (i + 1))) (zop_turn h (zsx xs (i + 1))).1 (zsx xs (i + 1)) (zsx_bd xs _)) dL_law_493 ?_
  rw [(zop_turn h (zsx xs (i + 1))).2.1]
  refine z_same (pc := 496) (tgt := 1177) hc (by decide) dL_law_496 ?_
  refine z_iinc (pc := 1177) (lv' := [(3, zI (i + 5)), (2, zR 38), (1, zR 27), (0, zR 60)]) hc 0 rfl rfl (by decide) dL_law_1177 ?_
  refine z_goto (pc := 1180) (tgt := 18) hc (by decide) dL_law_1180 ?_
  exact ih _ (zop_turn h (zsx xs (i + 1))).2.2

set_option maxRecDepth 100000 in
set_option maxHeartbeats 4000000 in
theorem zlaw_rows {X : CX} {L : Nat} {xs : Nat → Int32} {M : Mem} (hc : zCx KL_law X) (hs : zSc X L xs) (hL : L ≤ 2560) (i : Int) (hi : 0 ≤ i ∧ i + 5 ≤ L) (h : SR M) (ih : ∀ M' : Mem, SR M' → zJW X 18 [(3, zI (i + 5)), (2, zR 38), (1, zR 27), (0, zR 60)] [] M') : zJW X 501 [(3, zI i), (2, zR 38), (1, zR 27), (0, zR 60)] [] M := by
  refine z_ald (pc := 501) hc 2 rfl dL_law_501 ?_
  refine kc_L_46 (pc := 502) hc rfl (zfitLX (by decide) rfl) rfl (Nat.le_of_ble_eq_true rfl) (cx_rows M h.1) dL_law_502 ?_
  refine z_ald (pc := 505) hc 1 rfl dL_law_505 ?_
  refine kc_L_50 (pc := 506) hc rfl (zfitLR (by decide) rfl) rfl (Nat.le_of_ble_eq_true rfl) (cr_rows (xM_rows M) (zop_rows h).1) dL_law_506 ?_
  rw [(zop_rows h).2.1]
  refine z_same (pc := 509) (tgt := 1177) hc (by decide) dL_law_509 ?_
  refine z_iinc (pc := 1177) (lv' := [(3, zI (i + 5)), (2, zR 38), (1, zR 27), (0, zR 60)]) hc 0 rfl rfl (by decide) dL_law_1177 ?_
  refine z_goto (pc := 1180) (tgt := 18) hc (by decide) dL_law_1180 ?_
  exact ih _ (zop_rows h).2.2

set_option maxRecDepth 100000 in
set_option maxHeartbeats 4000000 in
theorem zlaw_columns {X : CX} {L : Nat} {xs : Nat → Int32} {M : Mem} (hc : zCx KL_law X) (hs : zSc X L xs) (hL : L ≤ 2560) (i : Int) (hi : 0 ≤ i ∧ i + 5 ≤ L) (h : SR M) (ih : ∀ M' : Mem, SR M' → zJW X 18 [(3, zI (i + 5)), (2, zR 38), (1, zR 27), (0, zR 60)] [] M') : zJW X 514 [(3, zI i), (2, zR 38), (1, zR 27), (0, zR 60)] [] M := by
  refine z_ald (pc := 514) hc 2 rfl dL_law_514 ?_
  refine kc_L_51 (pc := 515) hc rfl (zfitLX (by decide) rfl) rfl (Nat.le_of_ble_eq_true rfl) (cx_columns M h.1) dL_law_515 ?_
  refine z_ald (pc := 518) hc 1 rfl dL_law_518 ?_
  refine kc_L_54 (pc := 519) hc rfl (zfitLR (by decide) rfl) rfl (Nat.le_of_ble_eq_true rfl) (cr_columns (xM_columns M) (zop_columns h).1) dL_law_519 ?_
  rw [(zop_columns h).2.1]
  refine z_same (pc := 522) (tgt := 1177) hc (by decide) dL_law_522 ?_
  refine z_iinc (pc := 1177) (lv' := [(3, zI (i + 5)), (2, zR 38), (1, zR 27), (0, zR 60)]) hc 0 rfl rfl (by decide) dL_law_1177 ?_
  refine z_goto (pc := 1180) (tgt := 18) hc (by decide) dL_law_1180 ?_
  exact ih _ (zop_columns h).2.2

set_option maxRecDepth 100000 in
set_option maxHeartbeats 4000000 in
theorem zlaw_tile {X : CX} {L : Nat} {xs : Nat → Int32} {M : Mem} (hc : zCx KL_law X) (hs : zSc X L xs) (hL : L ≤ 2560) (i : Int) (hi : 0 ≤ i ∧ i + 5 ≤ L) (h : SR M) (ih : ∀ M' : Mem, SR M' → zJW X 18 [(3, zI (i + 5)), (2, zR 38), (1, zR 27), (0, zR 60)] [] M') : zJW X 527 [(3, zI i), (2, zR 38), (1, zR 27), (0, zR 60)] [] M := by
  refine z_ald (pc := 527) hc 2 rfl dL_law_527 ?_
  refine z_ald (pc := 528) hc 3 rfl dL_law_528 ?_
  refine z_ild (pc := 529) hc 0 rfl dL_law_529 ?_
  refine z_iconst (pc := 530) hc 1 dL_law_530 ?_
  refine z_iadd (pc := 531) hc dL_law_531 ?_
  refine z_sld (pc := 532) hc hs (by omega) hL dL_law_532 ?_
  refine z_ald (pc := 533) hc 3 rfl dL_law_533 ?_
  refine z_ild (pc := 534) hc 0 rfl dL_law_534 ?_
  refine z_iconst (pc := 535) hc 2 dL_law_535 ?_
  refine z_iadd (pc := 536) hc dL_law_536 ?_
  refine z_sld (pc := 537) hc hs (by omega) hL dL_law_537 ?_
  refine z_ald (pc := 538) hc 3 rfl dL_law_538 ?_
  refine z_ild (pc := 539) hc 0 rfl dL_law_539 ?_
  refine z_iconst (pc := 540) hc 3 dL_law_540 ?_
  refine z_iadd (pc := 541) hc dL_law_541 ?_
  refine z_sld (pc := 542) hc hs (by omega) hL dL_law_542 ?_
  refine kc_L_55 (pc := 543) hc rfl (zfitLX (by decide) rfl) rfl (Nat.le_of_ble_eq_true rfl) (cx_tile M h.1 (zsx xs (i + 1)) (zsx_bd xs _) (zsx xs (i + 2)) (zsx_bd xs _) (zsx xs (i + 3)) (zsx_bd xs _)) dL_law_543 ?_
  refine z_ald (pc := 546) hc 1 rfl dL_law_546 ?_
  refine z_ald (pc := 547) hc 3 rfl dL_law_547 ?_
  refine z_ild (pc := 548) hc 0 rfl dL_law_548 ?_
  refine z_iconst (pc := 549) hc 1 dL_law_549 ?_
  refine z_iadd (pc := 550) hc dL_law_550 ?_
  refine z_sld (pc := 551) hc hs (by omega) hL dL_law_551 ?_
  refine z_ald (pc := 552) hc 3 rfl dL_law_552 ?_
  refine z_ild (pc := 553) hc 0 rfl dL_law_553 ?_
  refine z_iconst (pc := 554) hc 2 dL_law_554 ?_
  refine z_iadd (pc := 555) hc dL_law_555 ?_
  refine z_sld (pc := 556) hc hs (by omega) hL dL_law_556 ?_
  refine z_ald (pc := 557) hc 3 rfl dL_law_557 ?_
  refine z_ild (pc := 558) hc 0 rfl dL_law_558 ?_
  refine z_iconst (pc := 559) hc 3 dL_law_559 ?_
  refine z_iadd (pc := 560) hc dL_law_560 ?_
  refine z_sld (pc := 561) hc hs (by omega) hL dL_law_561 ?_
  refine kc_L_59 (pc := 562) hc rfl (zfitLR (by decide) rfl) rfl (Nat.le_of_ble_eq_true rfl) (cr_tile (xM_tile M (zsx xs (i + 1)) (zsx xs (i + 2)) (zsx xs (i + 3))) (zop_tile h (zsx xs (i + 1)) (zsx xs (i + 2)) (zsx xs (i + 3))).1 (zsx xs (i + 1)) (zsx_bd xs _) (zsx xs (i + 2)) (zsx_bd xs _) (zsx xs (i + 3)) (zsx_bd xs _)) dL_law_562 ?_
  rw [(zop_tile h (zsx xs (i + 1)) (zsx xs (i + 2)) (zsx xs (i + 3))).2.1]
  refine z_same (pc := 565) (tgt := 1177) hc (by decide) dL_law_565 ?_
  refine z_iinc (pc := 1177) (lv' := [(3, zI (i + 5)), (2, zR 38), (1, zR 27), (0, zR 60)]) hc 0 rfl rfl (by decide) dL_law_1177 ?_
  refine z_goto (pc := 1180) (tgt := 18) hc (by decide) dL_law_1180 ?_
  exact ih _ (zop_tile h (zsx xs (i + 1)) (zsx xs (i + 2)) (zsx xs (i + 3))).2.2

set_option maxRecDepth 100000 in
set_option maxHeartbeats 4000000 in
theorem zlaw_pin {X : CX} {L : Nat} {xs : Nat → Int32} {M : Mem} (hc : zCx KL_law X) (hs : zSc X L xs) (hL : L ≤ 2560) (i : Int) (hi : 0 ≤ i ∧ i + 5 ≤ L) (h : SR M) (ih : ∀ M' : Mem, SR M' → zJW X 18 [(3, zI (i + 5)), (2, zR 38), (1, zR 27), (0, zR 60)] [] M') : zJW X 570 [(3, zI i), (2, zR 38), (1, zR 27), (0, zR 60)] [] M := by
  refine z_ald (pc := 570) hc 2 rfl dL_law_570 ?_
  refine z_ald (pc := 571) hc 3 rfl dL_law_571 ?_
  refine z_ild (pc := 572) hc 0 rfl dL_law_572 ?_
  refine z_iconst (pc := 573) hc 1 dL_law_573 ?_
  refine z_iadd (pc := 574) hc dL_law_574 ?_
  refine z_sld (pc := 575) hc hs (by omega) hL dL_law_575 ?_
  refine z_ald (pc := 576) hc 3 rfl dL_law_576 ?_
  refine z_ild (pc := 577) hc 0 rfl dL_law_577 ?_
  refine z_iconst (pc := 578) hc 2 dL_law_578 ?_
  refine z_iadd (pc := 579) hc dL_law_579 ?_
  refine z_sld (pc := 580) hc hs (by omega) hL dL_law_580 ?_
  refine z_ald (pc := 581) hc 3 rfl dL_law_581 ?_
  refine z_ild (pc := 582) hc 0 rfl dL_law_582 ?_
  refine z_iconst (pc := 583) hc 3 dL_law_583 ?_
  refine z_iadd (pc := 584) hc dL_law_584 ?_
  refine z_sld (pc := 585) hc hs (by omega) hL dL_law_585 ?_
  refine kc_L_60 (pc := 586) hc rfl (zfitLX (by decide) rfl) rfl (Nat.le_of_ble_eq_true rfl) (cx_pin M h.1 (zsx xs (i + 1)) (zsx_bd xs _) (zsx xs (i + 2)) (zsx_bd xs _) (zsx xs (i + 3)) (zsx_bd xs _)) dL_law_586 ?_
  refine z_ald (pc := 589) hc 1 rfl dL_law_589 ?_
  refine z_ald (pc := 590) hc 3 rfl dL_law_590 ?_
  refine z_ild (pc := 591) hc 0 rfl dL_law_591 ?_
  refine z_iconst (pc := 592) hc 1 dL_law_592 ?_
  refine z_iadd (pc := 593) hc dL_law_593 ?_
  refine z_sld (pc := 594) hc hs (by omega) hL dL_law_594 ?_
  refine z_ald (pc := 595) hc 3 rfl dL_law_595 ?_
  refine z_ild (pc := 596) hc 0 rfl dL_law_596 ?_
  refine z_iconst (pc := 597) hc 2 dL_law_597 ?_
  refine z_iadd (pc := 598) hc dL_law_598 ?_
  refine z_sld (pc := 599) hc hs (by omega) hL dL_law_599 ?_
  refine z_ald (pc := 600) hc 3 rfl dL_law_600 ?_
  refine z_ild (pc := 601) hc 0 rfl dL_law_601 ?_
  refine z_iconst (pc := 602) hc 3 dL_law_602 ?_
  refine z_iadd (pc := 603) hc dL_law_603 ?_
  refine z_sld (pc := 604) hc hs (by omega) hL dL_law_604 ?_
  refine kc_L_63 (pc := 605) hc rfl (zfitLR (by decide) rfl) rfl (Nat.le_of_ble_eq_true rfl) (cr_pin (xM_pin M (zsx xs (i + 1)) (zsx xs (i + 2)) (zsx xs (i + 3))) (zop_pin h (zsx xs (i + 1)) (zsx xs (i + 2)) (zsx xs (i + 3))).1 (zsx xs (i + 1)) (zsx_bd xs _) (zsx xs (i + 2)) (zsx_bd xs _) (zsx xs (i + 3)) (zsx_bd xs _)) dL_law_605 ?_
  rw [(zop_pin h (zsx xs (i + 1)) (zsx xs (i + 2)) (zsx xs (i + 3))).2.1]
  refine z_same (pc := 608) (tgt := 1177) hc (by decide) dL_law_608 ?_
  refine z_iinc (pc := 1177) (lv' := [(3, zI (i + 5)), (2, zR 38), (1, zR 27), (0, zR 60)]) hc 0 rfl rfl (by decide) dL_law_1177 ?_
  refine z_goto (pc := 1180) (tgt := 18) hc (by decide) dL_law_1180 ?_
  exact ih _ (zop_pin h (zsx xs (i + 1)) (zsx xs (i + 2)) (zsx xs (i + 3))).2.2

set_option maxRecDepth 100000 in
set_option maxHeartbeats 4000000 in
theorem zlaw_unpin {X : CX} {L : Nat} {xs : Nat → Int32} {M : Mem} (hc : zCx KL_law X) (hs : zSc X L xs) (hL : L ≤ 2560) (i : Int) (hi : 0 ≤ i ∧ i + 5 ≤ L) (h : SR M) (ih : ∀ M' : Mem, SR M' → zJW X 18 [(3, zI (i + 5)), (2, zR 38), (1, zR 27), (0, zR 60)] [] M') : zJW X 613 [(3, zI i), (2, zR 38), (1, zR 27), (0, zR 60)] [] M := by
  refine z_ald (pc := 613) hc 2 rfl dL_law_613 ?_
  refine z_ald (pc := 614) hc 3 rfl dL_law_614 ?_
  refine z_ild (pc := 615) hc 0 rfl dL_law_615 ?_
  refine z_iconst (pc := 616) hc 1 dL_law_616 ?_
  refine z_iadd (pc := 617) hc dL_law_617 ?_
  refine z_sld (pc := 618) hc hs (by omega) hL dL_law_618 ?_
  refine z_ald (pc := 619) hc 3 rfl dL_law_619 ?_
  refine z_ild (pc := 620) hc 0 rfl dL_law_620 ?_
  refine z_iconst (pc := 621) hc 2 dL_law_621 ?_
  refine z_iadd (pc := 622) hc dL_law_622 ?_
  refine z_sld (pc := 623) hc hs (by omega) hL dL_law_623 ?_
  refine kc_L_64 (pc := 624) hc rfl (zfitLX (by decide) rfl) rfl (Nat.le_of_ble_eq_true rfl) (cx_unpin M h.1 (zsx xs (i + 1)) (zsx_bd xs _) (zsx xs (i + 2)) (zsx_bd xs _)) dL_law_624 ?_
  refine z_ald (pc := 627) hc 1 rfl dL_law_627 ?_
  refine z_ald (pc := 628) hc 3 rfl dL_law_628 ?_
  refine z_ild (pc := 629) hc 0 rfl dL_law_629 ?_
  refine z_iconst (pc := 630) hc 1 dL_law_630 ?_
  refine z_iadd (pc := 631) hc dL_law_631 ?_
  refine z_sld (pc := 632) hc hs (by omega) hL dL_law_632 ?_
  refine z_ald (pc := 633) hc 3 rfl dL_law_633 ?_
  refine z_ild (pc := 634) hc 0 rfl dL_law_634 ?_
  refine z_iconst (pc := 635) hc 2 dL_law_635 ?_
  refine z_iadd (pc := 636) hc dL_law_636 ?_
  refine z_sld (pc := 637) hc hs (by omega) hL dL_law_637 ?_
  refine kc_L_67 (pc := 638) hc rfl (zfitLR (by decide) rfl) rfl (Nat.le_of_ble_eq_true rfl) (cr_unpin (xM_unpin M (zsx xs (i + 1)) (zsx xs (i + 2))) (zop_unpin h (zsx xs (i + 1)) (zsx xs (i + 2))).1 (zsx xs (i + 1)) (zsx_bd xs _) (zsx xs (i + 2)) (zsx_bd xs _)) dL_law_638 ?_
  rw [(zop_unpin h (zsx xs (i + 1)) (zsx xs (i + 2))).2.1]
  refine z_same (pc := 641) (tgt := 1177) hc (by decide) dL_law_641 ?_
  refine z_iinc (pc := 1177) (lv' := [(3, zI (i + 5)), (2, zR 38), (1, zR 27), (0, zR 60)]) hc 0 rfl rfl (by decide) dL_law_1177 ?_
  refine z_goto (pc := 1180) (tgt := 18) hc (by decide) dL_law_1180 ?_
  exact ih _ (zop_unpin h (zsx xs (i + 1)) (zsx xs (i + 2))).2.2

set_option maxRecDepth 100000 in
set_option maxHeartbeats 4000000 in
theorem zlaw_faults {X : CX} {L : Nat} {xs : Nat → Int32} {M : Mem} (hc : zCx KL_law X) (hs : zSc X L xs) (hL : L ≤ 2560) (i : Int) (hi : 0 ≤ i ∧ i + 5 ≤ L) (h : SR M) (ih : ∀ M' : Mem, SR M' → zJW X 18 [(3, zI (i + 5)), (2, zR 38), (1, zR 27), (0, zR 60)] [] M') : zJW X 646 [(3, zI i), (2, zR 38), (1, zR 27), (0, zR 60)] [] M := by
  refine z_ald (pc := 646) hc 2 rfl dL_law_646 ?_
  refine kc_L_68 (pc := 647) hc rfl (zfitLX (by decide) rfl) rfl (Nat.le_of_ble_eq_true rfl) (cx_faults M h.1) dL_law_647 ?_
  refine z_ald (pc := 650) hc 1 rfl dL_law_650 ?_
  refine kc_L_71 (pc := 651) hc rfl (zfitLR (by decide) rfl) rfl (Nat.le_of_ble_eq_true rfl) (cr_faults (xM_faults M) (zop_faults h).1) dL_law_651 ?_
  rw [(zop_faults h).2.1]
  refine z_same (pc := 654) (tgt := 1177) hc (by decide) dL_law_654 ?_
  refine z_iinc (pc := 1177) (lv' := [(3, zI (i + 5)), (2, zR 38), (1, zR 27), (0, zR 60)]) hc 0 rfl rfl (by decide) dL_law_1177 ?_
  refine z_goto (pc := 1180) (tgt := 18) hc (by decide) dL_law_1180 ?_
  exact ih _ (zop_faults h).2.2

set_option maxRecDepth 100000 in
set_option maxHeartbeats 4000000 in
theorem zlaw_firstFault {X : CX} {L : Nat} {xs : Nat → Int32} {M : Mem} (hc : zCx KL_law X) (hs : zSc X L xs) (hL : L ≤ 2560) (i : Int) (hi : 0 ≤ i ∧ i + 5 ≤ L) (h : SR M) (ih : ∀ M' : Mem, SR M' → zJW X 18 [(3, zI (i + 5)), (2, zR 38), (1, zR 27), (0, zR 60)] [] M') : zJW X 659 [(3, zI i), (2, zR 38), (1, zR 27), (0, zR 60)] [] M := by
  refine z_ald (pc := 659) hc 2 rfl dL_law_659 ?_
  refine kc_L_72 (pc := 660) hc rfl (zfitLX (by decide) rfl) rfl (Nat.le_of_ble_eq_true rfl) (cx_firstFault M h.1) dL_law_660 ?_
  refine z_ald (pc := 663) hc 1 rfl dL_law_663 ?_
  refine kc_L_75 (pc := 664) hc rfl (zfitLR (by decide) rfl) rfl (Nat.le_of_ble_eq_true rfl) (cr_firstFault (xM_firstFault M) (zop_firstFault h).1) dL_law_664 ?_
  rw [(zop_firstFault h).2.1]
  refine z_same (pc := 667) (tgt := 1177) hc (by decide) dL_law_667 ?_
  refine z_iinc (pc := 1177) (lv' := [(3, zI (i + 5)), (2, zR 38), (1, zR 27), (0, zR 60)]) hc 0 rfl rfl (by decide) dL_law_1177 ?_
  refine z_goto (pc := 1180) (tgt := 18) hc (by decide) dL_law_1180 ?_
  exact ih _ (zop_firstFault h).2.2

set_option maxRecDepth 100000 in
set_option maxHeartbeats 4000000 in
theorem zlaw_maskOf {X : CX} {L : Nat} {xs : Nat → Int32} {M : Mem} (hc : zCx KL_law X) (hs : zSc X L xs) (hL : L ≤ 2560) (i : Int) (hi : 0 ≤ i ∧ i + 5 ≤ L) (h : SR M) (ih : ∀ M' : Mem, SR M' → zJW X 18 [(3, zI (i + 5)), (2, zR 38), (1, zR 27), (0, zR 60)] [] M') : zJW X 672 [(3, zI i), (2, zR 38), (1, zR 27), (0, zR 60)] [] M := by
  refine z_ald (pc := 672) hc 2 rfl dL_law_672 ?_
  refine z_ald (pc := 673) hc 3 rfl dL_law_673 ?_
  refine z_ild (pc := 674) hc 0 rfl dL_law_674 ?_
  refine z_iconst (pc := 675) hc 1 dL_law_675 ?_
  refine z_iadd (pc := 676) hc dL_law_676 ?_
  refine z_sld (pc := 677) hc hs (by omega) hL dL_law_677 ?_
  refine kc_L_76 (pc := 678) hc rfl (zfitLX (by decide) rfl) rfl (Nat.le_of_ble_eq_true rfl) (cx_maskOf M h.1 (zsx xs (i + 1)) (zsx_bd xs _)) dL_law_678 ?_
  refine z_ald (pc := 681) hc 1 rfl dL_law_681 ?_
  refine z_ald (pc := 682) hc 3 rfl dL_law_682 ?_
  refine z_ild (pc := 683) hc 0 rfl dL_law_683 ?_
  refine z_iconst (pc := 684) hc 1 dL_law_684 ?_
  refine z_iadd (pc := 685) hc dL_law_685 ?_
  refine z_sld (pc := 686) hc hs (by omega) hL dL_law_686 ?_
  refine kc_L_79 (pc := 687) hc rfl (zfitLR (by decide) rfl) rfl (Nat.le_of_ble_eq_true rfl) (cr_maskOf (xM_maskOf M (zsx xs (i + 1))) (zop_maskOf h (zsx xs (i + 1))).1 (zsx xs (i + 1)) (zsx_bd xs _)) dL_law_687 ?_
  rw [(zop_maskOf h (zsx xs (i + 1))).2.1]
  refine z_same (pc := 690) (tgt := 1177) hc (by decide) dL_law_690 ?_
  refine z_iinc (pc := 1177) (lv' := [(3, zI (i + 5)), (2, zR 38), (1, zR 27), (0, zR 60)]) hc 0 rfl rfl (by decide) dL_law_1177 ?_
  refine z_goto (pc := 1180) (tgt := 18) hc (by decide) dL_law_1180 ?_
  exact ih _ (zop_maskOf h (zsx xs (i + 1))).2.2

set_option maxRecDepth 100000 in
set_option maxHeartbeats 4000000 in
theorem zlaw_shapeOf {X : CX} {L : Nat} {xs : Nat → Int32} {M : Mem} (hc : zCx KL_law X) (hs : zSc X L xs) (hL : L ≤ 2560) (i : Int) (hi : 0 ≤ i ∧ i + 5 ≤ L) (h : SR M) (ih : ∀ M' : Mem, SR M' → zJW X 18 [(3, zI (i + 5)), (2, zR 38), (1, zR 27), (0, zR 60)] [] M') : zJW X 695 [(3, zI i), (2, zR 38), (1, zR 27), (0, zR 60)] [] M := by
  refine z_ald (pc := 695) hc 2 rfl dL_law_695 ?_
  refine z_ald (pc := 696) hc 3 rfl dL_law_696 ?_
  refine z_ild (pc := 697) hc 0 rfl dL_law_697 ?_
  refine z_iconst (pc := 698) hc 1 dL_law_698 ?_
  refine z_iadd (pc := 699) hc dL_law_699 ?_
  refine z_sld (pc := 700) hc hs (by omega) hL dL_law_700 ?_
  refine kc_L_80 (pc := 701) hc rfl (zfitLX (by decide) rfl) rfl (Nat.le_of_ble_eq_true rfl) (cx_shapeOf M h.1 (zsx xs (i + 1)) (zsx_bd xs _)) dL_law_701 ?_
  refine z_ald (pc := 704) hc 1 rfl dL_law_704 ?_
  refine z_ald (pc := 705) hc 3 rfl dL_law_705 ?_
  refine z_ild (pc := 706) hc 0 rfl dL_law_706 ?_
  refine z_iconst (pc := 707) hc 1 dL_law_707 ?_
  refine z_iadd (pc := 708) hc dL_law_708 ?_
  refine z_sld (pc := 709) hc hs (by omega) hL dL_law_709 ?_
  refine kc_L_83 (pc := 710) hc rfl (zfitLR (by decide) rfl) rfl (Nat.le_of_ble_eq_true rfl) (cr_shapeOf (xM_shapeOf M (zsx xs (i + 1))) (zop_shapeOf h (zsx xs (i + 1))).1 (zsx xs (i + 1)) (zsx_bd xs _)) dL_law_710 ?_
  rw [(zop_shapeOf h (zsx xs (i + 1))).2.1]
  refine z_same (pc := 713) (tgt := 1177) hc (by decide) dL_law_713 ?_
  refine z_iinc (pc := 1177) (lv' := [(3, zI (i + 5)), (2, zR 38), (1, zR 27), (0, zR 60)]) hc 0 rfl rfl (by decide) dL_law_1177 ?_
  refine z_goto (pc := 1180) (tgt := 18) hc (by decide) dL_law_1180 ?_
  exact ih _ (zop_shapeOf h (zsx xs (i + 1))).2.2

set_option maxRecDepth 100000 in
set_option maxHeartbeats 4000000 in
theorem zlaw_turned {X : CX} {L : Nat} {xs : Nat → Int32} {M : Mem} (hc : zCx KL_law X) (hs : zSc X L xs) (hL : L ≤ 2560) (i : Int) (hi : 0 ≤ i ∧ i + 5 ≤ L) (h : SR M) (ih : ∀ M' : Mem, SR M' → zJW X 18 [(3, zI (i + 5)), (2, zR 38), (1, zR 27), (0, zR 60)] [] M') : zJW X 718 [(3, zI i), (2, zR 38), (1, zR 27), (0, zR 60)] [] M := by
  refine z_ald (pc := 718) hc 2 rfl dL_law_718 ?_
  refine z_ald (pc := 719) hc 3 rfl dL_law_719 ?_
  refine z_ild (pc := 720) hc 0 rfl dL_law_720 ?_
  refine z_iconst (pc := 721) hc 1 dL_law_721 ?_
  refine z_iadd (pc := 722) hc dL_law_722 ?_
  refine z_sld (pc := 723) hc hs (by omega) hL dL_law_723 ?_
  refine z_ald (pc := 724) hc 3 rfl dL_law_724 ?_
  refine z_ild (pc := 725) hc 0 rfl dL_law_725 ?_
  refine z_iconst (pc := 726) hc 2 dL_law_726 ?_
  refine z_iadd (pc := 727) hc dL_law_727 ?_
  refine z_sld (pc := 728) hc hs (by omega) hL dL_law_728 ?_
  refine kc_L_84 (pc := 729) hc rfl (zfitLX (by decide) rfl) rfl (Nat.le_of_ble_eq_true rfl) (cx_turned M h.1 (zsx xs (i + 1)) (zsx_bd xs _) (zsx xs (i + 2)) (zsx_bd xs _)) dL_law_729 ?_
  refine z_ald (pc := 732) hc 1 rfl dL_law_732 ?_
  refine z_ald (pc := 733) hc 3 rfl dL_law_733 ?_
  refine z_ild (pc := 734) hc 0 rfl dL_law_734 ?_
  refine z_iconst (pc := 735) hc 1 dL_law_735 ?_
  refine z_iadd (pc := 736) hc dL_law_736 ?_
  refine z_sld (pc := 737) hc hs (by omega) hL dL_law_737 ?_
  refine z_ald (pc := 738) hc 3 rfl dL_law_738 ?_
  refine z_ild (pc := 739) hc 0 rfl dL_law_739 ?_
  refine z_iconst (pc := 740) hc 2 dL_law_740 ?_
  refine z_iadd (pc := 741) hc dL_law_741 ?_
  refine z_sld (pc := 742) hc hs (by omega) hL dL_law_742 ?_
  refine kc_L_87 (pc := 743) hc rfl (zfitLR (by decide) rfl) rfl (Nat.le_of_ble_eq_true rfl) (cr_turned (xM_turned M (zsx xs (i + 1)) (zsx xs (i + 2))) (zop_turned h (zsx xs (i + 1)) (zsx xs (i + 2))).1 (zsx xs (i + 1)) (zsx_bd xs _) (zsx xs (i + 2)) (zsx_bd xs _)) dL_law_743 ?_
  rw [(zop_turned h (zsx xs (i + 1)) (zsx xs (i + 2))).2.1]
  refine z_same (pc := 746) (tgt := 1177) hc (by decide) dL_law_746 ?_
  refine z_iinc (pc := 1177) (lv' := [(3, zI (i + 5)), (2, zR 38), (1, zR 27), (0, zR 60)]) hc 0 rfl rfl (by decide) dL_law_1177 ?_
  refine z_goto (pc := 1180) (tgt := 18) hc (by decide) dL_law_1180 ?_
  exact ih _ (zop_turned h (zsx xs (i + 1)) (zsx xs (i + 2))).2.2

set_option maxRecDepth 100000 in
set_option maxHeartbeats 4000000 in
theorem zlaw_mirrored {X : CX} {L : Nat} {xs : Nat → Int32} {M : Mem} (hc : zCx KL_law X) (hs : zSc X L xs) (hL : L ≤ 2560) (i : Int) (hi : 0 ≤ i ∧ i + 5 ≤ L) (h : SR M) (ih : ∀ M' : Mem, SR M' → zJW X 18 [(3, zI (i + 5)), (2, zR 38), (1, zR 27), (0, zR 60)] [] M') : zJW X 751 [(3, zI i), (2, zR 38), (1, zR 27), (0, zR 60)] [] M := by
  refine z_ald (pc := 751) hc 2 rfl dL_law_751 ?_
  refine z_ald (pc := 752) hc 3 rfl dL_law_752 ?_
  refine z_ild (pc := 753) hc 0 rfl dL_law_753 ?_
  refine z_iconst (pc := 754) hc 1 dL_law_754 ?_
  refine z_iadd (pc := 755) hc dL_law_755 ?_
  refine z_sld (pc := 756) hc hs (by omega) hL dL_law_756 ?_
  refine kc_L_88 (pc := 757) hc rfl (zfitLX (by decide) rfl) rfl (Nat.le_of_ble_eq_true rfl) (cx_mirrored M h.1 (zsx xs (i + 1)) (zsx_bd xs _)) dL_law_757 ?_
  refine z_ald (pc := 760) hc 1 rfl dL_law_760 ?_
  refine z_ald (pc := 761) hc 3 rfl dL_law_761 ?_
  refine z_ild (pc := 762) hc 0 rfl dL_law_762 ?_
  refine z_iconst (pc := 763) hc 1 dL_law_763 ?_
  refine z_iadd (pc := 764) hc dL_law_764 ?_
  refine z_sld (pc := 765) hc hs (by omega) hL dL_law_765 ?_
  refine kc_L_91 (pc := 766) hc rfl (zfitLR (by decide) rfl) rfl (Nat.le_of_ble_eq_true rfl) (cr_mirrored (xM_mirrored M (zsx xs (i + 1))) (zop_mirrored h (zsx xs (i + 1))).1 (zsx xs (i + 1)) (zsx_bd xs _)) dL_law_766 ?_
  rw [(zop_mirrored h (zsx xs (i + 1))).2.1]
  refine z_same (pc := 769) (tgt := 1177) hc (by decide) dL_law_769 ?_
  refine z_iinc (pc := 1177) (lv' := [(3, zI (i + 5)), (2, zR 38), (1, zR 27), (0, zR 60)]) hc 0 rfl rfl (by decide) dL_law_1177 ?_
  refine z_goto (pc := 1180) (tgt := 18) hc (by decide) dL_law_1180 ?_
  exact ih _ (zop_mirrored h (zsx xs (i + 1))).2.2

set_option maxRecDepth 100000 in
set_option maxHeartbeats 4000000 in
theorem zlaw_count {X : CX} {L : Nat} {xs : Nat → Int32} {M : Mem} (hc : zCx KL_law X) (hs : zSc X L xs) (hL : L ≤ 2560) (i : Int) (hi : 0 ≤ i ∧ i + 5 ≤ L) (h : SR M) (ih : ∀ M' : Mem, SR M' → zJW X 18 [(3, zI (i + 5)), (2, zR 38), (1, zR 27), (0, zR 60)] [] M') : zJW X 774 [(3, zI i), (2, zR 38), (1, zR 27), (0, zR 60)] [] M := by
  refine z_ald (pc := 774) hc 2 rfl dL_law_774 ?_
  refine z_ald (pc := 775) hc 3 rfl dL_law_775 ?_
  refine z_ild (pc := 776) hc 0 rfl dL_law_776 ?_
  refine z_iconst (pc := 777) hc 1 dL_law_777 ?_
  refine z_iadd (pc := 778) hc dL_law_778 ?_
  refine z_sld (pc := 779) hc hs (by omega) hL dL_law_779 ?_
  refine kc_L_92 (pc := 780) hc rfl (zfitLX (by decide) rfl) rfl (Nat.le_of_ble_eq_true rfl) (cx_count M h.1 (zsx xs (i + 1)) (zsx_bd xs _)) dL_law_780 ?_
  refine z_ald (pc := 783) hc 1 rfl dL_law_783 ?_
  refine z_ald (pc := 784) hc 3 rfl dL_law_784 ?_
  refine z_ild (pc := 785) hc 0 rfl dL_law_785 ?_
  refine z_iconst (pc := 786) hc 1 dL_law_786 ?_
  refine z_iadd (pc := 787) hc dL_law_787 ?_
  refine z_sld (pc := 788) hc hs (by omega) hL dL_law_788 ?_
  refine kc_L_95 (pc := 789) hc rfl (zfitLR (by decide) rfl) rfl (Nat.le_of_ble_eq_true rfl) (cr_count (xM_count M (zsx xs (i + 1))) (zop_count h (zsx xs (i + 1))).1 (zsx xs (i + 1)) (zsx_bd xs _)) dL_law_789 ?_
  rw [(zop_count h (zsx xs (i + 1))).2.1]
  refine z_same (pc := 792) (tgt := 1177) hc (by decide) dL_law_792 ?_
  refine z_iinc (pc := 1177) (lv' := [(3, zI (i + 5)), (2, zR 38), (1, zR 27), (0, zR 60)]) hc 0 rfl rfl (by decide) dL_law_1177 ?_
  refine z_goto (pc := 1180) (tgt := 18) hc (by decide) dL_law_1180 ?_
  exact ih _ (zop_count h (zsx xs (i + 1))).2.2

set_option maxRecDepth 100000 in
set_option maxHeartbeats 4000000 in
theorem zlaw_shapes {X : CX} {L : Nat} {xs : Nat → Int32} {M : Mem} (hc : zCx KL_law X) (hs : zSc X L xs) (hL : L ≤ 2560) (i : Int) (hi : 0 ≤ i ∧ i + 5 ≤ L) (h : SR M) (ih : ∀ M' : Mem, SR M' → zJW X 18 [(3, zI (i + 5)), (2, zR 38), (1, zR 27), (0, zR 60)] [] M') : zJW X 797 [(3, zI i), (2, zR 38), (1, zR 27), (0, zR 60)] [] M := by
  refine z_ald (pc := 797) hc 2 rfl dL_law_797 ?_
  refine kc_L_96 (pc := 798) hc rfl (zfitLX (by decide) rfl) rfl (Nat.le_of_ble_eq_true rfl) (cx_shapes M h.1) dL_law_798 ?_
  refine z_ald (pc := 801) hc 1 rfl dL_law_801 ?_
  refine kc_L_99 (pc := 802) hc rfl (zfitLR (by decide) rfl) rfl (Nat.le_of_ble_eq_true rfl) (cr_shapes (xM_shapes M) (zop_shapes h).1) dL_law_802 ?_
  rw [(zop_shapes h).2.1]
  refine z_same (pc := 805) (tgt := 1177) hc (by decide) dL_law_805 ?_
  refine z_iinc (pc := 1177) (lv' := [(3, zI (i + 5)), (2, zR 38), (1, zR 27), (0, zR 60)]) hc 0 rfl rfl (by decide) dL_law_1177 ?_
  refine z_goto (pc := 1180) (tgt := 18) hc (by decide) dL_law_1180 ?_
  exact ih _ (zop_shapes h).2.2

set_option maxRecDepth 100000 in
set_option maxHeartbeats 4000000 in
theorem zlaw_land {X : CX} {L : Nat} {xs : Nat → Int32} {M : Mem} (hc : zCx KL_law X) (hs : zSc X L xs) (hL : L ≤ 2560) (i : Int) (hi : 0 ≤ i ∧ i + 5 ≤ L) (h : SR M) (ih : ∀ M' : Mem, SR M' → zJW X 18 [(3, zI (i + 5)), (2, zR 38), (1, zR 27), (0, zR 60)] [] M') : zJW X 810 [(3, zI i), (2, zR 38), (1, zR 27), (0, zR 60)] [] M := by
  refine z_ald (pc := 810) hc 2 rfl dL_law_810 ?_
  refine kc_L_100 (pc := 811) hc rfl (zfitLX (by decide) rfl) rfl (Nat.le_of_ble_eq_true rfl) (cx_land M h.1) dL_law_811 ?_
  refine z_ald (pc := 814) hc 1 rfl dL_law_814 ?_
  refine kc_L_103 (pc := 815) hc rfl (zfitLR (by decide) rfl) rfl (Nat.le_of_ble_eq_true rfl) (cr_land (xM_land M) (zop_land h).1) dL_law_815 ?_
  rw [(zop_land h).2.1]
  refine z_same (pc := 818) (tgt := 1177) hc (by decide) dL_law_818 ?_
  refine z_iinc (pc := 1177) (lv' := [(3, zI (i + 5)), (2, zR 38), (1, zR 27), (0, zR 60)]) hc 0 rfl rfl (by decide) dL_law_1177 ?_
  refine z_goto (pc := 1180) (tgt := 18) hc (by decide) dL_law_1180 ?_
  exact ih _ (zop_land h).2.2

set_option maxRecDepth 100000 in
set_option maxHeartbeats 4000000 in
theorem zlaw_landShare {X : CX} {L : Nat} {xs : Nat → Int32} {M : Mem} (hc : zCx KL_law X) (hs : zSc X L xs) (hL : L ≤ 2560) (i : Int) (hi : 0 ≤ i ∧ i + 5 ≤ L) (h : SR M) (ih : ∀ M' : Mem, SR M' → zJW X 18 [(3, zI (i + 5)), (2, zR 38), (1, zR 27), (0, zR 60)] [] M') : zJW X 823 [(3, zI i), (2, zR 38), (1, zR 27), (0, zR 60)] [] M := by
  refine z_ald (pc := 823) hc 2 rfl dL_law_823 ?_
  refine kc_L_104 (pc := 824) hc rfl (zfitLX (by decide) rfl) rfl (Nat.le_of_ble_eq_true rfl) (cx_landShare M h.1) dL_law_824 ?_
  refine z_ald (pc := 827) hc 1 rfl dL_law_827 ?_
  refine kc_L_107 (pc := 828) hc rfl (zfitLR (by decide) rfl) rfl (Nat.le_of_ble_eq_true rfl) (cr_landShare (xM_landShare M) (zop_landShare h).1) dL_law_828 ?_
  rw [(zop_landShare h).2.1]
  refine z_same (pc := 831) (tgt := 1177) hc (by decide) dL_law_831 ?_
  refine z_iinc (pc := 1177) (lv' := [(3, zI (i + 5)), (2, zR 38), (1, zR 27), (0, zR 60)]) hc 0 rfl rfl (by decide) dL_law_1177 ?_
  refine z_goto (pc := 1180) (tgt := 18) hc (by decide) dL_law_1180 ?_
  exact ih _ (zop_landShare h).2.2

set_option maxRecDepth 100000 in
set_option maxHeartbeats 4000000 in
theorem zlaw_coast {X : CX} {L : Nat} {xs : Nat → Int32} {M : Mem} (hc : zCx KL_law X) (hs : zSc X L xs) (hL : L ≤ 2560) (i : Int) (hi : 0 ≤ i ∧ i + 5 ≤ L) (h : SR M) (ih : ∀ M' : Mem, SR M' → zJW X 18 [(3, zI (i + 5)), (2, zR 38), (1, zR 27), (0, zR 60)] [] M') : zJW X 836 [(3, zI i), (2, zR 38), (1, zR 27), (0, zR 60)] [] M := by
  refine z_ald (pc := 836) hc 2 rfl dL_law_836 ?_
  refine kc_L_108 (pc := 837) hc rfl (zfitLX (by decide) rfl) rfl (Nat.le_of_ble_eq_true rfl) (cx_coast M h.1) dL_law_837 ?_
  refine z_ald (pc := 840) hc 1 rfl dL_law_840 ?_
  refine kc_L_111 (pc := 841) hc rfl (zfitLR (by decide) rfl) rfl (Nat.le_of_ble_eq_true rfl) (cr_coast (xM_coast M) (zop_coast h).1) dL_law_841 ?_
  rw [(zop_coast h).2.1]
  refine z_same (pc := 844) (tgt := 1177) hc (by decide) dL_law_844 ?_
  refine z_iinc (pc := 1177) (lv' := [(3, zI (i + 5)), (2, zR 38), (1, zR 27), (0, zR 60)]) hc 0 rfl rfl (by decide) dL_law_1177 ?_
  refine z_goto (pc := 1180) (tgt := 18) hc (by decide) dL_law_1180 ?_
  exact ih _ (zop_coast h).2.2

set_option maxRecDepth 100000 in
set_option maxHeartbeats 4000000 in
theorem zlaw_islands {X : CX} {L : Nat} {xs : Nat → Int32} {M : Mem} (hc : zCx KL_law X) (hs : zSc X L xs) (hL : L ≤ 2560) (i : Int) (hi : 0 ≤ i ∧ i + 5 ≤ L) (h : SR M) (ih : ∀ M' : Mem, SR M' → zJW X 18 [(3, zI (i + 5)), (2, zR 38), (1, zR 27), (0, zR 60)] [] M') : zJW X 849 [(3, zI i), (2, zR 38), (1, zR 27), (0, zR 60)] [] M := by
  refine z_ald (pc := 849) hc 2 rfl dL_law_849 ?_
  refine kc_L_112 (pc := 850) hc rfl (zfitLX (by decide) rfl) rfl (Nat.le_of_ble_eq_true rfl) (cx_islands M h.1) dL_law_850 ?_
  refine z_ald (pc := 853) hc 1 rfl dL_law_853 ?_
  refine kc_L_115 (pc := 854) hc rfl (zfitLR (by decide) rfl) rfl (Nat.le_of_ble_eq_true rfl) (cr_islands (xM_islands M) (zop_islands h).1) dL_law_854 ?_
  rw [(zop_islands h).2.1]
  refine z_same (pc := 857) (tgt := 1177) hc (by decide) dL_law_857 ?_
  refine z_iinc (pc := 1177) (lv' := [(3, zI (i + 5)), (2, zR 38), (1, zR 27), (0, zR 60)]) hc 0 rfl rfl (by decide) dL_law_1177 ?_
  refine z_goto (pc := 1180) (tgt := 18) hc (by decide) dL_law_1180 ?_
  exact ih _ (zop_islands h).2.2

set_option maxRecDepth 100000 in
set_option maxHeartbeats 4000000 in
theorem zlaw_lakes {X : CX} {L : Nat} {xs : Nat → Int32} {M : Mem} (hc : zCx KL_law X) (hs : zSc X L xs) (hL : L ≤ 2560) (i : Int) (hi : 0 ≤ i ∧ i + 5 ≤ L) (h : SR M) (ih : ∀ M' : Mem, SR M' → zJW X 18 [(3, zI (i + 5)), (2, zR 38), (1, zR 27), (0, zR 60)] [] M') : zJW X 862 [(3, zI i), (2, zR 38), (1, zR 27), (0, zR 60)] [] M := by
  refine z_ald (pc := 862) hc 2 rfl dL_law_862 ?_
  refine kc_L_116 (pc := 863) hc rfl (zfitLX (by decide) rfl) rfl (Nat.le_of_ble_eq_true rfl) (cx_lakes M h.1) dL_law_863 ?_
  refine z_ald (pc := 866) hc 1 rfl dL_law_866 ?_
  refine kc_L_119 (pc := 867) hc rfl (zfitLR (by decide) rfl) rfl (Nat.le_of_ble_eq_true rfl) (cr_lakes (xM_lakes M) (zop_lakes h).1) dL_law_867 ?_
  rw [(zop_lakes h).2.1]
  refine z_same (pc := 870) (tgt := 1177) hc (by decide) dL_law_870 ?_
  refine z_iinc (pc := 1177) (lv' := [(3, zI (i + 5)), (2, zR 38), (1, zR 27), (0, zR 60)]) hc 0 rfl rfl (by decide) dL_law_1177 ?_
  refine z_goto (pc := 1180) (tgt := 18) hc (by decide) dL_law_1180 ?_
  exact ih _ (zop_lakes h).2.2

set_option maxRecDepth 100000 in
set_option maxHeartbeats 4000000 in
theorem zlaw_region {X : CX} {L : Nat} {xs : Nat → Int32} {M : Mem} (hc : zCx KL_law X) (hs : zSc X L xs) (hL : L ≤ 2560) (i : Int) (hi : 0 ≤ i ∧ i + 5 ≤ L) (h : SR M) (ih : ∀ M' : Mem, SR M' → zJW X 18 [(3, zI (i + 5)), (2, zR 38), (1, zR 27), (0, zR 60)] [] M') : zJW X 875 [(3, zI i), (2, zR 38), (1, zR 27), (0, zR 60)] [] M := by
  refine z_ald (pc := 875) hc 2 rfl dL_law_875 ?_
  refine z_ald (pc := 876) hc 3 rfl dL_law_876 ?_
  refine z_ild (pc := 877) hc 0 rfl dL_law_877 ?_
  refine z_iconst (pc := 878) hc 1 dL_law_878 ?_
  refine z_iadd (pc := 879) hc dL_law_879 ?_
  refine z_sld (pc := 880) hc hs (by omega) hL dL_law_880 ?_
  refine z_ald (pc := 881) hc 3 rfl dL_law_881 ?_
  refine z_ild (pc := 882) hc 0 rfl dL_law_882 ?_
  refine z_iconst (pc := 883) hc 2 dL_law_883 ?_
  refine z_iadd (pc := 884) hc dL_law_884 ?_
  refine z_sld (pc := 885) hc hs (by omega) hL dL_law_885 ?_
  refine z_ald (pc := 886) hc 3 rfl dL_law_886 ?_
  refine z_ild (pc := 887) hc 0 rfl dL_law_887 ?_
  refine z_iconst (pc := 888) hc 3 dL_law_888 ?_
  refine z_iadd (pc := 889) hc dL_law_889 ?_
  refine z_sld (pc := 890) hc hs (by omega) hL dL_law_890 ?_
  have hJ899 : zJW X 899 [(3, zI i), (2, zR 38), (1, zR 27), (0, zR 60)] [zI (zbz (decide ((zsx xs (i + 3)) ≠ 0))), zI (zsx xs (i + 2)), zI (zsx xs (i + 1)), zR 27] M := by
    refine kc_L_120 (pc := 899) hc rfl (zfitLX (by decide) rfl) rfl (Nat.le_of_ble_eq_true rfl) (cx_region M h.1 (zsx xs (i + 1)) (zsx_bd xs _) (zsx xs (i + 2)) (zsx_bd xs _) (decide ((zsx xs (i + 3)) ≠ 0))) dL_law_899 ?_
    refine z_ald (pc := 902) hc 1 rfl dL_law_902 ?_
    refine z_ald (pc := 903) hc 3 rfl dL_law_903 ?_
    refine z_ild (pc := 904) hc 0 rfl dL_law_904 ?_
    refine z_iconst (pc := 905) hc 1 dL_law_905 ?_
    refine z_iadd (pc := 906) hc dL_law_906 ?_
    refine z_sld (pc := 907) hc hs (by omega) hL dL_law_907 ?_
    refine z_ald (pc := 908) hc 3 rfl dL_law_908 ?_
    refine z_ild (pc := 909) hc 0 rfl dL_law_909 ?_
    refine z_iconst (pc := 910) hc 2 dL_law_910 ?_
    refine z_iadd (pc := 911) hc dL_law_911 ?_
    refine z_sld (pc := 912) hc hs (by omega) hL dL_law_912 ?_
    refine z_ald (pc := 913) hc 3 rfl dL_law_913 ?_
    refine z_ild (pc := 914) hc 0 rfl dL_law_914 ?_
    refine z_iconst (pc := 915) hc 3 dL_law_915 ?_
    refine z_iadd (pc := 916) hc dL_law_916 ?_
    refine z_sld (pc := 917) hc hs (by omega) hL dL_law_917 ?_
    have hJ926 : zJW X 926 [(3, zI i), (2, zR 38), (1, zR 27), (0, zR 60)] [zI (zbz (decide ((zsx xs (i + 3)) ≠ 0))), zI (zsx xs (i + 2)), zI (zsx xs (i + 1)), zR 38, zI (xR_region M (zsx xs (i + 1)) (zsx xs (i + 2)) (decide ((zsx xs (i + 3)) ≠ 0)))] (xM_region M (zsx xs (i + 1)) (zsx xs (i + 2)) (decide ((zsx xs (i + 3)) ≠ 0))) := by
      refine kc_L_123 (pc := 926) hc rfl (zfitLR (by decide) rfl) rfl (Nat.le_of_ble_eq_true rfl) (cr_region (xM_region M (zsx xs (i + 1)) (zsx xs (i + 2)) (decide ((zsx xs (i + 3)) ≠ 0))) (zop_region h (zsx xs (i + 1)) (zsx xs (i + 2)) (decide ((zsx xs (i + 3)) ≠ 0))).1 (zsx xs (i + 1)) (zsx_bd xs _) (zsx xs (i + 2)) (zsx_bd xs _) (decide ((zsx xs (i + 3)) ≠ 0))) dL_law_926 ?_
      rw [(zop_region h (zsx xs (i + 1)) (zsx xs (i + 2)) (decide ((zsx xs (i + 3)) ≠ 0))).2.1]
      refine z_same (pc := 929) (tgt := 1177) hc (by decide) dL_law_929 ?_
      refine z_iinc (pc := 1177) (lv' := [(3, zI (i + 5)), (2, zR 38), (1, zR 27), (0, zR 60)]) hc 0 rfl rfl (by decide) dL_law_1177 ?_
      refine z_goto (pc := 1180) (tgt := 18) hc (by decide) dL_law_1180 ?_
      exact ih _ (zop_region h (zsx xs (i + 1)) (zsx xs (i + 2)) (decide ((zsx xs (i + 3)) ≠ 0))).2.2
    refine z_ieq (pc := 918) (tgt := 925) hc (zsx_bd xs _) (by decide) dL_law_918 (fun h918 => ?_) (fun h918 => ?_)
    · show zJW X 925 [(3, zI i), (2, zR 38), (1, zR 27), (0, zR 60)] [zI (zsx xs (i + 2)), zI (zsx xs (i + 1)), zR 38, zI (xR_region M (zsx xs (i + 1)) (zsx xs (i + 2)) (decide ((zsx xs (i + 3)) ≠ 0)))] (xM_region M (zsx xs (i + 1)) (zsx xs (i + 2)) (decide ((zsx xs (i + 3)) ≠ 0)))
      refine z_iconst (pc := 925) hc 0 dL_law_925 ?_
      exact zJW_eq (by rfl) (by first | (rw [decide_eq_true (show (zsx xs (i + 3)) ≠ 0 by omega)] <;> rfl) | (rw [decide_eq_false (show ¬ (zsx xs (i + 3)) ≠ 0 by omega)] <;> rfl)) (by rfl) hJ926
    · show zJW X 921 [(3, zI i), (2, zR 38), (1, zR 27), (0, zR 60)] [zI (zsx xs (i + 2)), zI (zsx xs (i + 1)), zR 38, zI (xR_region M (zsx xs (i + 1)) (zsx xs (i + 2)) (decide ((zsx xs (i + 3)) ≠ 0)))] (xM_region M (zsx xs (i + 1)) (zsx xs (i + 2)) (decide ((zsx xs (i + 3)) ≠ 0)))
      refine z_iconst (pc := 921) hc 1 dL_law_921 ?_
      refine z_goto (pc := 922) (tgt := 926) hc (by decide) dL_law_922 ?_
      exact zJW_eq (by rfl) (by first | (rw [decide_eq_true (show (zsx xs (i + 3)) ≠ 0 by omega)] <;> rfl) | (rw [decide_eq_false (show ¬ (zsx xs (i + 3)) ≠ 0 by omega)] <;> rfl)) (by rfl) hJ926
  refine z_ieq (pc := 891) (tgt := 898) hc (zsx_bd xs _) (by decide) dL_law_891 (fun h891 => ?_) (fun h891 => ?_)
  · show zJW X 898 [(3, zI i), (2, zR 38), (1, zR 27), (0, zR 60)] [zI (zsx xs (i + 2)), zI (zsx xs (i + 1)), zR 27] M
    refine z_iconst (pc := 898) hc 0 dL_law_898 ?_
    exact zJW_eq (by rfl) (by first | (rw [decide_eq_true (show (zsx xs (i + 3)) ≠ 0 by omega)] <;> rfl) | (rw [decide_eq_false (show ¬ (zsx xs (i + 3)) ≠ 0 by omega)] <;> rfl)) (by rfl) hJ899
  · show zJW X 894 [(3, zI i), (2, zR 38), (1, zR 27), (0, zR 60)] [zI (zsx xs (i + 2)), zI (zsx xs (i + 1)), zR 27] M
    refine z_iconst (pc := 894) hc 1 dL_law_894 ?_
    refine z_goto (pc := 895) (tgt := 899) hc (by decide) dL_law_895 ?_
    exact zJW_eq (by rfl) (by first | (rw [decide_eq_true (show (zsx xs (i + 3)) ≠ 0 by omega)] <;> rfl) | (rw [decide_eq_false (show ¬ (zsx xs (i + 3)) ≠ 0 by omega)] <;> rfl)) (by rfl) hJ899

set_option maxRecDepth 100000 in
set_option maxHeartbeats 4000000 in
theorem zlaw_largestIsland {X : CX} {L : Nat} {xs : Nat → Int32} {M : Mem} (hc : zCx KL_law X) (hs : zSc X L xs) (hL : L ≤ 2560) (i : Int) (hi : 0 ≤ i ∧ i + 5 ≤ L) (h : SR M) (ih : ∀ M' : Mem, SR M' → zJW X 18 [(3, zI (i + 5)), (2, zR 38), (1, zR 27), (0, zR 60)] [] M') : zJW X 934 [(3, zI i), (2, zR 38), (1, zR 27), (0, zR 60)] [] M := by
  refine z_ald (pc := 934) hc 2 rfl dL_law_934 ?_
  refine kc_L_124 (pc := 935) hc rfl (zfitLX (by decide) rfl) rfl (Nat.le_of_ble_eq_true rfl) (cx_largestIsland M h.1) dL_law_935 ?_
  refine z_ald (pc := 938) hc 1 rfl dL_law_938 ?_
  refine kc_L_127 (pc := 939) hc rfl (zfitLR (by decide) rfl) rfl (Nat.le_of_ble_eq_true rfl) (cr_largestIsland (xM_largestIsland M) (zop_largestIsland h).1) dL_law_939 ?_
  rw [(zop_largestIsland h).2.1]
  refine z_same (pc := 942) (tgt := 1177) hc (by decide) dL_law_942 ?_
  refine z_iinc (pc := 1177) (lv' := [(3, zI (i + 5)), (2, zR 38), (1, zR 27), (0, zR 60)]) hc 0 rfl rfl (by decide) dL_law_1177 ?_
  refine z_goto (pc := 1180) (tgt := 18) hc (by decide) dL_law_1180 ?_
  exact ih _ (zop_largestIsland h).2.2

set_option maxRecDepth 100000 in
set_option maxHeartbeats 4000000 in
theorem zlaw_way {X : CX} {L : Nat} {xs : Nat → Int32} {M : Mem} (hc : zCx KL_law X) (hs : zSc X L xs) (hL : L ≤ 2560) (i : Int) (hi : 0 ≤ i ∧ i + 5 ≤ L) (h : SR M) (ih : ∀ M' : Mem, SR M' → zJW X 18 [(3, zI (i + 5)), (2, zR 38), (1, zR 27), (0, zR 60)] [] M') : zJW X 947 [(3, zI i), (2, zR 38), (1, zR 27), (0, zR 60)] [] M := by
  refine z_ald (pc := 947) hc 2 rfl dL_law_947 ?_
  refine z_ald (pc := 948) hc 3 rfl dL_law_948 ?_
  refine z_ild (pc := 949) hc 0 rfl dL_law_949 ?_
  refine z_iconst (pc := 950) hc 1 dL_law_950 ?_
  refine z_iadd (pc := 951) hc dL_law_951 ?_
  refine z_sld (pc := 952) hc hs (by omega) hL dL_law_952 ?_
  refine z_ald (pc := 953) hc 3 rfl dL_law_953 ?_
  refine z_ild (pc := 954) hc 0 rfl dL_law_954 ?_
  refine z_iconst (pc := 955) hc 2 dL_law_955 ?_
  refine z_iadd (pc := 956) hc dL_law_956 ?_
  refine z_sld (pc := 957) hc hs (by omega) hL dL_law_957 ?_
  refine z_ald (pc := 958) hc 3 rfl dL_law_958 ?_
  refine z_ild (pc := 959) hc 0 rfl dL_law_959 ?_
  refine z_iconst (pc := 960) hc 3 dL_law_960 ?_
  refine z_iadd (pc := 961) hc dL_law_961 ?_
  refine z_sld (pc := 962) hc hs (by omega) hL dL_law_962 ?_
  refine z_ald (pc := 963) hc 3 rfl dL_law_963 ?_
  refine z_ild (pc := 964) hc 0 rfl dL_law_964 ?_
  refine z_iconst (pc := 965) hc 4 dL_law_965 ?_
  refine z_iadd (pc := 966) hc dL_law_966 ?_
  refine z_sld (pc := 967) hc hs (by omega) hL dL_law_967 ?_
  refine kc_L_128 (pc := 968) hc rfl (zfitLX (by decide) rfl) rfl (Nat.le_of_ble_eq_true rfl) (cx_way M h.1 (zsx xs (i + 1)) (zsx_bd xs _) (zsx xs (i + 2)) (zsx_bd xs _) (zsx xs (i + 3)) (zsx_bd xs _) (zsx xs (i + 4)) (zsx_bd xs _)) dL_law_968 ?_
  refine z_ald (pc := 971) hc 1 rfl dL_law_971 ?_
  refine z_ald (pc := 972) hc 3 rfl dL_law_972 ?_
  refine z_ild (pc := 973) hc 0 rfl dL_law_973 ?_
  refine z_iconst (pc := 974) hc 1 dL_law_974 ?_
  refine z_iadd (pc := 975) hc dL_law_975 ?_
  refine z_sld (pc := 976) hc hs (by omega) hL dL_law_976 ?_
  refine z_ald (pc := 977) hc 3 rfl dL_law_977 ?_
  refine z_ild (pc := 978) hc 0 rfl dL_law_978 ?_
  refine z_iconst (pc := 979) hc 2 dL_law_979 ?_
  refine z_iadd (pc := 980) hc dL_law_980 ?_
  refine z_sld (pc := 981) hc hs (by omega) hL dL_law_981 ?_
  refine z_ald (pc := 982) hc 3 rfl dL_law_982 ?_
  refine z_ild (pc := 983) hc 0 rfl dL_law_983 ?_
  refine z_iconst (pc := 984) hc 3 dL_law_984 ?_
  refine z_iadd (pc := 985) hc dL_law_985 ?_
  refine z_sld (pc := 986) hc hs (by omega) hL dL_law_986 ?_
  refine z_ald (pc := 987) hc 3 rfl dL_law_987 ?_
  refine z_ild (pc := 988) hc 0 rfl dL_law_988 ?_
  refine z_iconst (pc := 989) hc 4 dL_law_989 ?_
  refine z_iadd (pc := 990) hc dL_law_990 ?_
  refine z_sld (pc := 991) hc hs (by omega) hL dL_law_991 ?_
  refine kc_L_132 (pc := 992) hc rfl (zfitLR (by decide) rfl) rfl (Nat.le_of_ble_eq_true rfl) (cr_way (xM_way M (zsx xs (i + 1)) (zsx xs (i + 2)) (zsx xs (i + 3)) (zsx xs (i + 4))) (zop_way h (zsx xs (i + 1)) (zsx xs (i + 2)) (zsx xs (i + 3)) (zsx xs (i + 4))).1 (zsx xs (i + 1)) (zsx_bd xs _) (zsx xs (i + 2)) (zsx_bd xs _) (zsx xs (i + 3)) (zsx_bd xs _) (zsx xs (i + 4)) (zsx_bd xs _)) dL_law_992 ?_
  rw [(zop_way h (zsx xs (i + 1)) (zsx xs (i + 2)) (zsx xs (i + 3)) (zsx xs (i + 4))).2.1]
  refine z_same (pc := 995) (tgt := 1177) hc (by decide) dL_law_995 ?_
  refine z_iinc (pc := 1177) (lv' := [(3, zI (i + 5)), (2, zR 38), (1, zR 27), (0, zR 60)]) hc 0 rfl rfl (by decide) dL_law_1177 ?_
  refine z_goto (pc := 1180) (tgt := 18) hc (by decide) dL_law_1180 ?_
  exact ih _ (zop_way h (zsx xs (i + 1)) (zsx xs (i + 2)) (zsx xs (i + 3)) (zsx xs (i + 4))).2.2

set_option maxRecDepth 100000 in
set_option maxHeartbeats 4000000 in
theorem zlaw_coastIfChanged {X : CX} {L : Nat} {xs : Nat → Int32} {M : Mem} (hc : zCx KL_law X) (hs : zSc X L xs) (hL : L ≤ 2560) (i : Int) (hi : 0 ≤ i ∧ i + 5 ≤ L) (h : SR M) (ih : ∀ M' : Mem, SR M' → zJW X 18 [(3, zI (i + 5)), (2, zR 38), (1, zR 27), (0, zR 60)] [] M') : zJW X 1000 [(3, zI i), (2, zR 38), (1, zR 27), (0, zR 60)] [] M := by
  refine z_ald (pc := 1000) hc 2 rfl dL_law_1000 ?_
  refine z_ald (pc := 1001) hc 3 rfl dL_law_1001 ?_
  refine z_ild (pc := 1002) hc 0 rfl dL_law_1002 ?_
  refine z_iconst (pc := 1003) hc 1 dL_law_1003 ?_
  refine z_iadd (pc := 1004) hc dL_law_1004 ?_
  refine z_sld (pc := 1005) hc hs (by omega) hL dL_law_1005 ?_
  refine z_ald (pc := 1006) hc 3 rfl dL_law_1006 ?_
  refine z_ild (pc := 1007) hc 0 rfl dL_law_1007 ?_
  refine z_iconst (pc := 1008) hc 2 dL_law_1008 ?_
  refine z_iadd (pc := 1009) hc dL_law_1009 ?_
  refine z_sld (pc := 1010) hc hs (by omega) hL dL_law_1010 ?_
  refine kc_L_133 (pc := 1011) hc rfl (zfitLX (by decide) rfl) rfl (Nat.le_of_ble_eq_true rfl) (cx_coastIfChanged M h.1 (zsx xs (i + 1)) (zsx_bd xs _) (zsx xs (i + 2)) (zsx_bd xs _)) dL_law_1011 ?_
  refine z_ald (pc := 1014) hc 1 rfl dL_law_1014 ?_
  refine z_ald (pc := 1015) hc 3 rfl dL_law_1015 ?_
  refine z_ild (pc := 1016) hc 0 rfl dL_law_1016 ?_
  refine z_iconst (pc := 1017) hc 1 dL_law_1017 ?_
  refine z_iadd (pc := 1018) hc dL_law_1018 ?_
  refine z_sld (pc := 1019) hc hs (by omega) hL dL_law_1019 ?_
  refine z_ald (pc := 1020) hc 3 rfl dL_law_1020 ?_
  refine z_ild (pc := 1021) hc 0 rfl dL_law_1021 ?_
  refine z_iconst (pc := 1022) hc 2 dL_law_1022 ?_
  refine z_iadd (pc := 1023) hc dL_law_1023 ?_
  refine z_sld (pc := 1024) hc hs (by omega) hL dL_law_1024 ?_
  refine kc_L_136 (pc := 1025) hc rfl (zfitLR (by decide) rfl) rfl (Nat.le_of_ble_eq_true rfl) (cr_coastIfChanged (xM_coastIfChanged M (zsx xs (i + 1)) (zsx xs (i + 2))) (zop_coastIfChanged h (zsx xs (i + 1)) (zsx xs (i + 2))).1 (zsx xs (i + 1)) (zsx_bd xs _) (zsx xs (i + 2)) (zsx_bd xs _)) dL_law_1025 ?_
  rw [(zop_coastIfChanged h (zsx xs (i + 1)) (zsx xs (i + 2))).2.1]
  refine z_same (pc := 1028) (tgt := 1177) hc (by decide) dL_law_1028 ?_
  refine z_iinc (pc := 1177) (lv' := [(3, zI (i + 5)), (2, zR 38), (1, zR 27), (0, zR 60)]) hc 0 rfl rfl (by decide) dL_law_1177 ?_
  refine z_goto (pc := 1180) (tgt := 18) hc (by decide) dL_law_1180 ?_
  exact ih _ (zop_coastIfChanged h (zsx xs (i + 1)) (zsx xs (i + 2))).2.2

set_option maxRecDepth 100000 in
set_option maxHeartbeats 4000000 in
theorem zlaw_needs {X : CX} {L : Nat} {xs : Nat → Int32} {M : Mem} (hc : zCx KL_law X) (hs : zSc X L xs) (hL : L ≤ 2560) (i : Int) (hi : 0 ≤ i ∧ i + 5 ≤ L) (h : SR M) (ih : ∀ M' : Mem, SR M' → zJW X 18 [(3, zI (i + 5)), (2, zR 38), (1, zR 27), (0, zR 60)] [] M') : zJW X 1033 [(3, zI i), (2, zR 38), (1, zR 27), (0, zR 60)] [] M := by
  refine z_ald (pc := 1033) hc 2 rfl dL_law_1033 ?_
  refine z_ald (pc := 1034) hc 3 rfl dL_law_1034 ?_
  refine z_ild (pc := 1035) hc 0 rfl dL_law_1035 ?_
  refine z_iconst (pc := 1036) hc 1 dL_law_1036 ?_
  refine z_iadd (pc := 1037) hc dL_law_1037 ?_
  refine z_sld (pc := 1038) hc hs (by omega) hL dL_law_1038 ?_
  refine z_ald (pc := 1039) hc 3 rfl dL_law_1039 ?_
  refine z_ild (pc := 1040) hc 0 rfl dL_law_1040 ?_
  refine z_iconst (pc := 1041) hc 2 dL_law_1041 ?_
  refine z_iadd (pc := 1042) hc dL_law_1042 ?_
  refine z_sld (pc := 1043) hc hs (by omega) hL dL_law_1043 ?_
  refine z_ald (pc := 1044) hc 3 rfl dL_law_1044 ?_
  refine z_ild (pc := 1045) hc 0 rfl dL_law_1045 ?_
  refine z_iconst (pc := 1046) hc 3 dL_law_1046 ?_
  refine z_iadd (pc := 1047) hc dL_law_1047 ?_
  refine z_sld (pc := 1048) hc hs (by omega) hL dL_law_1048 ?_
  refine kc_L_137 (pc := 1049) hc rfl (zfitLX (by decide) rfl) rfl (Nat.le_of_ble_eq_true rfl) (cx_needs M h.1 (zsx xs (i + 1)) (zsx_bd xs _) (zsx xs (i + 2)) (zsx_bd xs _) (zsx xs (i + 3)) (zsx_bd xs _)) dL_law_1049 ?_
  refine z_ald (pc := 1052) hc 1 rfl dL_law_1052 ?_
  refine z_ald (pc := 1053) hc 3 rfl dL_law_1053 ?_
  refine z_ild (pc := 1054) hc 0 rfl dL_law_1054 ?_
  refine z_iconst (pc := 1055) hc 1 dL_law_1055 ?_
  refine z_iadd (pc := 1056) hc dL_law_1056 ?_
  refine z_sld (pc := 1057) hc hs (by omega) hL dL_law_1057 ?_
  refine z_ald (pc := 1058) hc 3 rfl dL_law_1058 ?_
  refine z_ild (pc := 1059) hc 0 rfl dL_law_1059 ?_
  refine z_iconst (pc := 1060) hc 2 dL_law_1060 ?_
  refine z_iadd (pc := 1061) hc dL_law_1061 ?_
  refine z_sld (pc := 1062) hc hs (by omega) hL dL_law_1062 ?_
  refine z_ald (pc := 1063) hc 3 rfl dL_law_1063 ?_
  refine z_ild (pc := 1064) hc 0 rfl dL_law_1064 ?_
  refine z_iconst (pc := 1065) hc 3 dL_law_1065 ?_
  refine z_iadd (pc := 1066) hc dL_law_1066 ?_
  refine z_sld (pc := 1067) hc hs (by omega) hL dL_law_1067 ?_
  refine kc_L_140 (pc := 1068) hc rfl (zfitLR (by decide) rfl) rfl (Nat.le_of_ble_eq_true rfl) (cr_needs (xM_needs M (zsx xs (i + 1)) (zsx xs (i + 2)) (zsx xs (i + 3))) (zop_needs h (zsx xs (i + 1)) (zsx xs (i + 2)) (zsx xs (i + 3))).1 (zsx xs (i + 1)) (zsx_bd xs _) (zsx xs (i + 2)) (zsx_bd xs _) (zsx xs (i + 3)) (zsx_bd xs _)) dL_law_1068 ?_
  rw [(zop_needs h (zsx xs (i + 1)) (zsx xs (i + 2)) (zsx xs (i + 3))).2.1]
  refine z_same (pc := 1071) (tgt := 1177) hc (by decide) dL_law_1071 ?_
  refine z_iinc (pc := 1177) (lv' := [(3, zI (i + 5)), (2, zR 38), (1, zR 27), (0, zR 60)]) hc 0 rfl rfl (by decide) dL_law_1177 ?_
  refine z_goto (pc := 1180) (tgt := 18) hc (by decide) dL_law_1180 ?_
  exact ih _ (zop_needs h (zsx xs (i + 1)) (zsx xs (i + 2)) (zsx xs (i + 3))).2.2

set_option maxRecDepth 100000 in
set_option maxHeartbeats 4000000 in
theorem zlaw_append {X : CX} {L : Nat} {xs : Nat → Int32} {M : Mem} (hc : zCx KL_law X) (hs : zSc X L xs) (hL : L ≤ 2560) (i : Int) (hi : 0 ≤ i ∧ i + 5 ≤ L) (h : SR M) (ih : ∀ M' : Mem, SR M' → zJW X 18 [(3, zI (i + 5)), (2, zR 38), (1, zR 27), (0, zR 60)] [] M') : zJW X 1076 [(3, zI i), (2, zR 38), (1, zR 27), (0, zR 60)] [] M := by
  refine z_ald (pc := 1076) hc 2 rfl dL_law_1076 ?_
  refine z_ald (pc := 1077) hc 3 rfl dL_law_1077 ?_
  refine z_ild (pc := 1078) hc 0 rfl dL_law_1078 ?_
  refine z_iconst (pc := 1079) hc 1 dL_law_1079 ?_
  refine z_iadd (pc := 1080) hc dL_law_1080 ?_
  refine z_sld (pc := 1081) hc hs (by omega) hL dL_law_1081 ?_
  refine kc_L_141 (pc := 1082) hc rfl (zfitLX (by decide) rfl) rfl (Nat.le_of_ble_eq_true rfl) (cx_append M h.1 (zsx xs (i + 1)) (zsx_bd xs _)) dL_law_1082 ?_
  refine z_ald (pc := 1085) hc 1 rfl dL_law_1085 ?_
  refine z_ald (pc := 1086) hc 3 rfl dL_law_1086 ?_
  refine z_ild (pc := 1087) hc 0 rfl dL_law_1087 ?_
  refine z_iconst (pc := 1088) hc 1 dL_law_1088 ?_
  refine z_iadd (pc := 1089) hc dL_law_1089 ?_
  refine z_sld (pc := 1090) hc hs (by omega) hL dL_law_1090 ?_
  refine kc_L_144 (pc := 1091) hc rfl (zfitLR (by decide) rfl) rfl (Nat.le_of_ble_eq_true rfl) (cr_append (xM_append M (zsx xs (i + 1))) (zop_append h (zsx xs (i + 1))).1 (zsx xs (i + 1)) (zsx_bd xs _)) dL_law_1091 ?_
  rw [(zop_append h (zsx xs (i + 1))).2.1]
  refine z_same (pc := 1094) (tgt := 1177) hc (by decide) dL_law_1094 ?_
  refine z_iinc (pc := 1177) (lv' := [(3, zI (i + 5)), (2, zR 38), (1, zR 27), (0, zR 60)]) hc 0 rfl rfl (by decide) dL_law_1177 ?_
  refine z_goto (pc := 1180) (tgt := 18) hc (by decide) dL_law_1180 ?_
  exact ih _ (zop_append h (zsx xs (i + 1))).2.2

set_option maxRecDepth 100000 in
set_option maxHeartbeats 4000000 in
theorem zlaw_clearText {X : CX} {L : Nat} {xs : Nat → Int32} {M : Mem} (hc : zCx KL_law X) (hs : zSc X L xs) (hL : L ≤ 2560) (i : Int) (hi : 0 ≤ i ∧ i + 5 ≤ L) (h : SR M) (ih : ∀ M' : Mem, SR M' → zJW X 18 [(3, zI (i + 5)), (2, zR 38), (1, zR 27), (0, zR 60)] [] M') : zJW X 1099 [(3, zI i), (2, zR 38), (1, zR 27), (0, zR 60)] [] M := by
  refine z_ald (pc := 1099) hc 2 rfl dL_law_1099 ?_
  refine kc_L_145 (pc := 1100) hc rfl (zfitLX (by decide) rfl) rfl (Nat.le_of_ble_eq_true rfl) (cx_clearText M h.1) dL_law_1100 ?_
  refine z_ald (pc := 1103) hc 1 rfl dL_law_1103 ?_
  refine kc_L_148 (pc := 1104) hc rfl (zfitLR (by decide) rfl) rfl (Nat.le_of_ble_eq_true rfl) (cr_clearText (xM_clearText M) (zop_clearText h).1) dL_law_1104 ?_
  rw [(zop_clearText h).2.1]
  refine z_same (pc := 1107) (tgt := 1177) hc (by decide) dL_law_1107 ?_
  refine z_iinc (pc := 1177) (lv' := [(3, zI (i + 5)), (2, zR 38), (1, zR 27), (0, zR 60)]) hc 0 rfl rfl (by decide) dL_law_1177 ?_
  refine z_goto (pc := 1180) (tgt := 18) hc (by decide) dL_law_1180 ?_
  exact ih _ (zop_clearText h).2.2

set_option maxRecDepth 100000 in
set_option maxHeartbeats 4000000 in
theorem zlaw_errorPosition {X : CX} {L : Nat} {xs : Nat → Int32} {M : Mem} (hc : zCx KL_law X) (hs : zSc X L xs) (hL : L ≤ 2560) (i : Int) (hi : 0 ≤ i ∧ i + 5 ≤ L) (h : SR M) (ih : ∀ M' : Mem, SR M' → zJW X 18 [(3, zI (i + 5)), (2, zR 38), (1, zR 27), (0, zR 60)] [] M') : zJW X 1112 [(3, zI i), (2, zR 38), (1, zR 27), (0, zR 60)] [] M := by
  refine z_ald (pc := 1112) hc 2 rfl dL_law_1112 ?_
  refine kc_L_149 (pc := 1113) hc rfl (zfitLX (by decide) rfl) rfl (Nat.le_of_ble_eq_true rfl) (cx_errorPosition M h.1) dL_law_1113 ?_
  refine z_ald (pc := 1116) hc 1 rfl dL_law_1116 ?_
  refine kc_L_152 (pc := 1117) hc rfl (zfitLR (by decide) rfl) rfl (Nat.le_of_ble_eq_true rfl) (cr_errorPosition (xM_errorPosition M) (zop_errorPosition h).1) dL_law_1117 ?_
  rw [(zop_errorPosition h).2.1]
  refine z_same (pc := 1120) (tgt := 1177) hc (by decide) dL_law_1120 ?_
  refine z_iinc (pc := 1177) (lv' := [(3, zI (i + 5)), (2, zR 38), (1, zR 27), (0, zR 60)]) hc 0 rfl rfl (by decide) dL_law_1177 ?_
  refine z_goto (pc := 1180) (tgt := 18) hc (by decide) dL_law_1180 ?_
  exact ih _ (zop_errorPosition h).2.2

set_option maxRecDepth 100000 in
set_option maxHeartbeats 4000000 in
theorem zlaw_read {X : CX} {L : Nat} {xs : Nat → Int32} {M : Mem} (hc : zCx KL_law X) (hs : zSc X L xs) (hL : L ≤ 2560) (i : Int) (hi : 0 ≤ i ∧ i + 5 ≤ L) (h : SR M) (ih : ∀ M' : Mem, SR M' → zJW X 18 [(3, zI (i + 5)), (2, zR 38), (1, zR 27), (0, zR 60)] [] M') : zJW X 1125 [(3, zI i), (2, zR 38), (1, zR 27), (0, zR 60)] [] M := by
  refine z_ald (pc := 1125) hc 2 rfl dL_law_1125 ?_
  refine kc_L_153 (pc := 1126) hc rfl (zfitLX (by decide) rfl) rfl (Nat.le_of_ble_eq_true rfl) (cx_read M h.1) dL_law_1126 ?_
  refine z_ald (pc := 1129) hc 1 rfl dL_law_1129 ?_
  refine kc_L_156 (pc := 1130) hc rfl (zfitLR (by decide) rfl) rfl (Nat.le_of_ble_eq_true rfl) (cr_read (xM_read M) (zop_read h).1) dL_law_1130 ?_
  rw [(zop_read h).2.1]
  refine z_same (pc := 1133) (tgt := 1177) hc (by decide) dL_law_1133 ?_
  refine z_iinc (pc := 1177) (lv' := [(3, zI (i + 5)), (2, zR 38), (1, zR 27), (0, zR 60)]) hc 0 rfl rfl (by decide) dL_law_1177 ?_
  refine z_goto (pc := 1180) (tgt := 18) hc (by decide) dL_law_1180 ?_
  exact ih _ (zop_read h).2.2

set_option maxRecDepth 100000 in
set_option maxHeartbeats 4000000 in
theorem zlaw_undo {X : CX} {L : Nat} {xs : Nat → Int32} {M : Mem} (hc : zCx KL_law X) (hs : zSc X L xs) (hL : L ≤ 2560) (i : Int) (hi : 0 ≤ i ∧ i + 5 ≤ L) (h : SR M) (ih : ∀ M' : Mem, SR M' → zJW X 18 [(3, zI (i + 5)), (2, zR 38), (1, zR 27), (0, zR 60)] [] M') : zJW X 1138 [(3, zI i), (2, zR 38), (1, zR 27), (0, zR 60)] [] M := by
  refine z_ald (pc := 1138) hc 2 rfl dL_law_1138 ?_
  refine kc_L_157 (pc := 1139) hc rfl (zfitLX (by decide) rfl) rfl (Nat.le_of_ble_eq_true rfl) (cx_undo M h.1) dL_law_1139 ?_
  refine z_ald (pc := 1142) hc 1 rfl dL_law_1142 ?_
  refine kc_L_160 (pc := 1143) hc rfl (zfitLR (by decide) rfl) rfl (Nat.le_of_ble_eq_true rfl) (cr_undo (xM_undo M) (zop_undo h).1) dL_law_1143 ?_
  rw [(zop_undo h).2.1]
  refine z_same (pc := 1146) (tgt := 1177) hc (by decide) dL_law_1146 ?_
  refine z_iinc (pc := 1177) (lv' := [(3, zI (i + 5)), (2, zR 38), (1, zR 27), (0, zR 60)]) hc 0 rfl rfl (by decide) dL_law_1177 ?_
  refine z_goto (pc := 1180) (tgt := 18) hc (by decide) dL_law_1180 ?_
  exact ih _ (zop_undo h).2.2

set_option maxRecDepth 100000 in
set_option maxHeartbeats 4000000 in
theorem zlaw_save {X : CX} {L : Nat} {xs : Nat → Int32} {M : Mem} (hc : zCx KL_law X) (hs : zSc X L xs) (hL : L ≤ 2560) (i : Int) (hi : 0 ≤ i ∧ i + 5 ≤ L) (h : SR M) (ih : ∀ M' : Mem, SR M' → zJW X 18 [(3, zI (i + 5)), (2, zR 38), (1, zR 27), (0, zR 60)] [] M') : zJW X 1151 [(3, zI i), (2, zR 38), (1, zR 27), (0, zR 60)] [] M := by
  refine z_ald (pc := 1151) hc 2 rfl dL_law_1151 ?_
  refine kc_L_161 (pc := 1152) hc rfl (zfitLX (by decide) rfl) rfl (Nat.le_of_ble_eq_true rfl) (cx_save M h.1) dL_law_1152 ?_
  refine z_ald (pc := 1155) hc 1 rfl dL_law_1155 ?_
  refine kc_L_164 (pc := 1156) hc rfl (zfitLR (by decide) rfl) rfl (Nat.le_of_ble_eq_true rfl) (cr_save (xM_save M) (zop_save h).1) dL_law_1156 ?_
  rw [(zop_save h).2.1]
  refine z_same (pc := 1159) (tgt := 1177) hc (by decide) dL_law_1159 ?_
  refine z_iinc (pc := 1177) (lv' := [(3, zI (i + 5)), (2, zR 38), (1, zR 27), (0, zR 60)]) hc 0 rfl rfl (by decide) dL_law_1177 ?_
  refine z_goto (pc := 1180) (tgt := 18) hc (by decide) dL_law_1180 ?_
  exact ih _ (zop_save h).2.2

set_option maxRecDepth 100000 in
set_option maxHeartbeats 4000000 in
theorem zlaw_restore {X : CX} {L : Nat} {xs : Nat → Int32} {M : Mem} (hc : zCx KL_law X) (hs : zSc X L xs) (hL : L ≤ 2560) (i : Int) (hi : 0 ≤ i ∧ i + 5 ≤ L) (h : SR M) (ih : ∀ M' : Mem, SR M' → zJW X 18 [(3, zI (i + 5)), (2, zR 38), (1, zR 27), (0, zR 60)] [] M') : zJW X 1164 [(3, zI i), (2, zR 38), (1, zR 27), (0, zR 60)] [] M := by
  refine z_ald (pc := 1164) hc 2 rfl dL_law_1164 ?_
  refine kc_L_165 (pc := 1165) hc rfl (zfitLX (by decide) rfl) rfl (Nat.le_of_ble_eq_true rfl) (cx_restore M h.1) dL_law_1165 ?_
  refine z_ald (pc := 1168) hc 1 rfl dL_law_1168 ?_
  refine kc_L_168 (pc := 1169) hc rfl (zfitLR (by decide) rfl) rfl (Nat.le_of_ble_eq_true rfl) (cr_restore (xM_restore M) (zop_restore h).1) dL_law_1169 ?_
  rw [(zop_restore h).2.1]
  refine z_same (pc := 1172) (tgt := 1177) hc (by decide) dL_law_1172 ?_
  refine z_iinc (pc := 1177) (lv' := [(3, zI (i + 5)), (2, zR 38), (1, zR 27), (0, zR 60)]) hc 0 rfl rfl (by decide) dL_law_1177 ?_
  refine z_goto (pc := 1180) (tgt := 18) hc (by decide) dL_law_1180 ?_
  exact ih _ (zop_restore h).2.2
