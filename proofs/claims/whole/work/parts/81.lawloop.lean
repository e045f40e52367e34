set_option maxRecDepth 100000 in
set_option maxHeartbeats 4000000 in
theorem zlaw_step {X : CX} {L : Nat} {xs : Nat → Int32} {M : Mem} (hc : zCx KL_law X) (hs : zSc X L xs) (hL : L ≤ 2560) (hend : ∀ (i : Int) (M' : Mem), zJW X 1184 [(3, zI i), (2, zR 38), (1, zR 27), (0, zR 60)] [zI 1] M') (i : Int) (hi0 : 0 ≤ i ∧ i ≤ 100000) (h : SR M) (ih : i + 5 ≤ L → ∀ M' : Mem, SR M' → zJW X 18 [(3, zI (i + 5)), (2, zR 38), (1, zR 27), (0, zR 60)] [] M') : zJW X 18 [(3, zI i), (2, zR 38), (1, zR 27), (0, zR 60)] [] M := by
  have hzb := zan_bd (zsx xs i) (m := 63) (by omega)
  refine z_ild (pc := 18) hc 0 rfl dL_law_18 ?_
  refine z_ald (pc := 19) hc 3 rfl dL_law_19 ?_
  refine z_slen (pc := 20) hc hs dL_law_20 ?_
  refine z_iconst (pc := 21) hc 5 dL_law_21 ?_
  refine z_isub (pc := 22) hc dL_law_22 ?_
  refine z_cgt (pc := 23) (tgt := 1183) hc (by omega) (by decide) dL_law_23 (fun h23 => ?_) (fun h23 => ?_)
  · show zJW X 1183 [(3, zI i), (2, zR 38), (1, zR 27), (0, zR 60)] [] M
    refine z_iconst (pc := 1183) hc 1 dL_law_1183 ?_
    exact hend _ _
  · show zJW X 26 [(3, zI i), (2, zR 38), (1, zR 27), (0, zR 60)] [] M
    have hi : 0 ≤ i ∧ i + 5 ≤ L := by omega
    refine z_ald (pc := 26) hc 3 rfl dL_law_26 ?_
    refine z_ild (pc := 27) hc 0 rfl dL_law_27 ?_
    refine z_sld (pc := 28) hc hs (by omega) hL dL_law_28 ?_
    refine z_bipush (pc := 29) hc 63 (by decide) dL_law_29 ?_
    refine z_iand (pc := 31) hc dL_law_31 ?_
    by_cases hsw32 : 0 ≤ (zan (zsx xs i) 63) ∧ (zan (zsx xs i) 63) ≤ 36
    · rcases (show (zan (zsx xs i) 63) = 0 ∨ (zan (zsx xs i) 63) = 1 ∨ (zan (zsx xs i) 63) = 2 ∨ (zan (zsx xs i) 63) = 3 ∨ (zan (zsx xs i) 63) = 4 ∨ (zan (zsx xs i) 63) = 5 ∨ (zan (zsx xs i) 63) = 6 ∨ (zan (zsx xs i) 63) = 7 ∨ (zan (zsx xs i) 63) = 8 ∨ (zan (zsx xs i) 63) = 9 ∨ (zan (zsx xs i) 63) = 10 ∨ (zan (zsx xs i) 63) = 11 ∨ (zan (zsx xs i) 63) = 12 ∨ (zan (zsx xs i) 63) = 13 ∨ (zan (zsx xs i) 63) = 14 ∨ (zan (zsx xs i) 63) = 15 ∨ (zan (zsx xs i) 63) = 16 ∨ (zan (zsx xs i) 63) = 17 ∨ (zan (zsx xs i) 63) = 18 ∨ (zan (zsx xs i) 63) = 19 ∨ (zan (zsx xs i) 63) = 20 ∨ (zan (zsx xs i) 63) = 21 ∨ (zan (zsx xs i) 63) = 22 ∨ (zan (zsx xs i) 63) = 23 ∨ (zan (zsx xs i) 63) = 24 ∨ (zan (zsx xs i) 63) = 25 ∨ (zan (zsx xs i) 63) = 26 ∨ (zan (zsx xs i) 63) = 27 ∨ (zan (zsx xs i) 63) = 28 ∨ (zan (zsx xs i) 63) = 29 ∨ (zan (zsx xs i) 63) = 30 ∨ (zan (zsx xs i) 63) = 31 ∨ (zan (zsx xs i) 63) = 32 ∨ (zan (zsx xs i) 63) = 33 ∨ (zan (zsx xs i) 63) = 34 ∨ (zan (zsx xs i) 63) = 35 ∨ (zan (zsx xs i) 63) = 36 by omega) with hsv32 | hsv32 | hsv32 | hsv32 | hsv32 | hsv32 | hsv32 | hsv32 | hsv32 | hsv32 | hsv32 | hsv32 | hsv32 | hsv32 | hsv32 | hsv32 | hsv32 | hsv32 | hsv32 | hsv32 | hsv32 | hsv32 | hsv32 | hsv32 | hsv32 | hsv32 | hsv32 | hsv32 | hsv32 | hsv32 | hsv32 | hsv32 | hsv32 | hsv32 | hsv32 | hsv32 | hsv32
      · refine z_swIn (pc := 32) (off := 164) (tgt := 196) hc (by omega) hsw32 (by rw [hsv32]; rfl) (by decide) dL_law_32 ?_
        show zJW X 196 [(3, zI i), (2, zR 38), (1, zR 27), (0, zR 60)] [] M
        exact zlaw_begin hc hs hL i hi h (ih hi.2)
      · refine z_swIn (pc := 32) (off := 197) (tgt := 229) hc (by omega) hsw32 (by rw [hsv32]; rfl) (by decide) dL_law_32 ?_
        show zJW X 229 [(3, zI i), (2, zR 38), (1, zR 27), (0, zR 60)] [] M
        exact zlaw_setOutside hc hs hL i hi h (ih hi.2)
      · refine z_swIn (pc := 32) (off := 236) (tgt := 268) hc (by omega) hsw32 (by rw [hsv32]; rfl) (by decide) dL_law_32 ?_
        show zJW X 268 [(3, zI i), (2, zR 38), (1, zR 27), (0, zR 60)] [] M
        exact zlaw_set hc hs hL i hi h (ih hi.2)
      · refine z_swIn (pc := 32) (off := 295) (tgt := 327) hc (by omega) hsw32 (by rw [hsv32]; rfl) (by decide) dL_law_32 ?_
        show zJW X 327 [(3, zI i), (2, zR 38), (1, zR 27), (0, zR 60)] [] M
        exact zlaw_fill hc hs hL i hi h (ih hi.2)
      · refine z_swIn (pc := 32) (off := 354) (tgt := 386) hc (by omega) hsw32 (by rw [hsv32]; rfl) (by decide) dL_law_32 ?_
        show zJW X 386 [(3, zI i), (2, zR 38), (1, zR 27), (0, zR 60)] [] M
        exact zlaw_brush hc hs hL i hi h (ih hi.2)
      · refine z_swIn (pc := 32) (off := 423) (tgt := 455) hc (by omega) hsw32 (by rw [hsv32]; rfl) (by decide) dL_law_32 ?_
        show zJW X 455 [(3, zI i), (2, zR 38), (1, zR 27), (0, zR 60)] [] M
        exact zlaw_smooth hc hs hL i hi h (ih hi.2)
      · refine z_swIn (pc := 32) (off := 446) (tgt := 478) hc (by omega) hsw32 (by rw [hsv32]; rfl) (by decide) dL_law_32 ?_
        show zJW X 478 [(3, zI i), (2, zR 38), (1, zR 27), (0, zR 60)] [] M
        exact zlaw_turn hc hs hL i hi h (ih hi.2)
      · refine z_swIn (pc := 32) (off := 469) (tgt := 501) hc (by omega) hsw32 (by rw [hsv32]; rfl) (by decide) dL_law_32 ?_
        show zJW X 501 [(3, zI i), (2, zR 38), (1, zR 27), (0, zR 60)] [] M
        exact zlaw_rows hc hs hL i hi h (ih hi.2)
      · refine z_swIn (pc := 32) (off := 482) (tgt := 514) hc (by omega) hsw32 (by rw [hsv32]; rfl) (by decide) dL_law_32 ?_
        show zJW X 514 [(3, zI i), (2, zR 38), (1, zR 27), (0, zR 60)] [] M
        exact zlaw_columns hc hs hL i hi h (ih hi.2)
      · refine z_swIn (pc := 32) (off := 495) (tgt := 527) hc (by omega) hsw32 (by rw [hsv32]; rfl) (by decide) dL_law_32 ?_
        show zJW X 527 [(3, zI i), (2, zR 38), (1, zR 27), (0, zR 60)] [] M
        exact zlaw_tile hc hs hL i hi h (ih hi.2)
      · refine z_swIn (pc := 32) (off := 538) (tgt := 570) hc (by omega) hsw32 (by rw [hsv32]; rfl) (by decide) dL_law_32 ?_
        show zJW X 570 [(3, zI i), (2, zR 38), (1, zR 27), (0, zR 60)] [] M
        exact zlaw_pin hc hs hL i hi h (ih hi.2)
      · refine z_swIn (pc := 32) (off := 581) (tgt := 613) hc (by omega) hsw32 (by rw [hsv32]; rfl) (by decide) dL_law_32 ?_
        show zJW X 613 [(3, zI i), (2, zR 38), (1, zR 27), (0, zR 60)] [] M
        exact zlaw_unpin hc hs hL i hi h (ih hi.2)
      · refine z_swIn (pc := 32) (off := 614) (tgt := 646) hc (by omega) hsw32 (by rw [hsv32]; rfl) (by decide) dL_law_32 ?_
        show zJW X 646 [(3, zI i), (2, zR 38), (1, zR 27), (0, zR 60)] [] M
        exact zlaw_faults hc hs hL i hi h (ih hi.2)
      · refine z_swIn (pc := 32) (off := 627) (tgt := 659) hc (by omega) hsw32 (by rw [hsv32]; rfl) (by decide) dL_law_32 ?_
        show zJW X 659 [(3, zI i), (2, zR 38), (1, zR 27), (0, zR 60)] [] M
        exact zlaw_firstFault hc hs hL i hi h (ih hi.2)
      · refine z_swIn (pc := 32) (off := 640) (tgt := 672) hc (by omega) hsw32 (by rw [hsv32]; rfl) (by decide) dL_law_32 ?_
        show zJW X 672 [(3, zI i), (2, zR 38), (1, zR 27), (0, zR 60)] [] M
        exact zlaw_maskOf hc hs hL i hi h (ih hi.2)
      · refine z_swIn (pc := 32) (off := 663) (tgt := 695) hc (by omega) hsw32 (by rw [hsv32]; rfl) (by decide) dL_law_32 ?_
        show zJW X 695 [(3, zI i), (2, zR 38), (1, zR 27), (0, zR 60)] [] M
        exact zlaw_shapeOf hc hs hL i hi h (ih hi.2)
      · refine z_swIn (pc := 32) (off := 686) (tgt := 718) hc (by omega) hsw32 (by rw [hsv32]; rfl) (by decide) dL_law_32 ?_
        show zJW X 718 [(3, zI i), (2, zR 38), (1, zR 27), (0, zR 60)] [] M
        exact zlaw_turned hc hs hL i hi h (ih hi.2)
      · refine z_swIn (pc := 32) (off := 719) (tgt := 751) hc (by omega) hsw32 (by rw [hsv32]; rfl) (by decide) dL_law_32 ?_
        show zJW X 751 [(3, zI i), (2, zR 38), (1, zR 27), (0, zR 60)] [] M
        exact zlaw_mirrored hc hs hL i hi h (ih hi.2)
      · refine z_swIn (pc := 32) (off := 742) (tgt := 774) hc (by omega) hsw32 (by rw [hsv32]; rfl) (by decide) dL_law_32 ?_
        show zJW X 774 [(3, zI i), (2, zR 38), (1, zR 27), (0, zR 60)] [] M
        exact zlaw_count hc hs hL i hi h (ih hi.2)
      · refine z_swIn (pc := 32) (off := 765) (tgt := 797) hc (by omega) hsw32 (by rw [hsv32]; rfl) (by decide) dL_law_32 ?_
        show zJW X 797 [(3, zI i), (2, zR 38), (1, zR 27), (0, zR 60)] [] M
        exact zlaw_shapes hc hs hL i hi h (ih hi.2)
      · refine z_swIn (pc := 32) (off := 778) (tgt := 810) hc (by omega) hsw32 (by rw [hsv32]; rfl) (by decide) dL_law_32 ?_
        show zJW X 810 [(3, zI i), (2, zR 38), (1, zR 27), (0, zR 60)] [] M
        exact zlaw_land hc hs hL i hi h (ih hi.2)
      · refine z_swIn (pc := 32) (off := 791) (tgt := 823) hc (by omega) hsw32 (by rw [hsv32]; rfl) (by decide) dL_law_32 ?_
        show zJW X 823 [(3, zI i), (2, zR 38), (1, zR 27), (0, zR 60)] [] M
        exact zlaw_landShare hc hs hL i hi h (ih hi.2)
      · refine z_swIn (pc := 32) (off := 804) (tgt := 836) hc (by omega) hsw32 (by rw [hsv32]; rfl) (by decide) dL_law_32 ?_
        show zJW X 836 [(3, zI i), (2, zR 38), (1, zR 27), (0, zR 60)] [] M
        exact zlaw_coast hc hs hL i hi h (ih hi.2)
      · refine z_swIn (pc := 32) (off := 817) (tgt := 849) hc (by omega) hsw32 (by rw [hsv32]; rfl) (by decide) dL_law_32 ?_
        show zJW X 849 [(3, zI i), (2, zR 38), (1, zR 27), (0, zR 60)] [] M
        exact zlaw_islands hc hs hL i hi h (ih hi.2)
      · refine z_swIn (pc := 32) (off := 830) (tgt := 862) hc (by omega) hsw32 (by rw [hsv32]; rfl) (by decide) dL_law_32 ?_
        show zJW X 862 [(3, zI i), (2, zR 38), (1, zR 27), (0, zR 60)] [] M
        exact zlaw_lakes hc hs hL i hi h (ih hi.2)
      · refine z_swIn (pc := 32) (off := 843) (tgt := 875) hc (by omega) hsw32 (by rw [hsv32]; rfl) (by decide) dL_law_32 ?_
        show zJW X 875 [(3, zI i), (2, zR 38), (1, zR 27), (0, zR 60)] [] M
        exact zlaw_region hc hs hL i hi h (ih hi.2)
      · refine z_swIn (pc := 32) (off := 902) (tgt := 934) hc (by omega) hsw32 (by rw [hsv32]; rfl) (by decide) dL_law_32 ?_
        show zJW X 934 [(3, zI i), (2, zR 38), (1, zR 27), (0, zR 60)] [] M
        exact zlaw_largestIsland hc hs hL i hi h (ih hi.2)
      · refine z_swIn (pc := 32) (off := 915) (tgt := 947) hc (by omega) hsw32 (by rw [hsv32]; rfl) (by decide) dL_law_32 ?_
        show zJW X 947 [(3, zI i), (2, zR 38), (1, zR 27), (0, zR 60)] [] M
        exact zlaw_way hc hs hL i hi h (ih hi.2)
      · refine z_swIn (pc := 32) (off := 968) (tgt := 1000) hc (by omega) hsw32 (by rw [hsv32]; rfl) (by decide) dL_law_32 ?_
        show zJW X 1000 [(3, zI i), (2, zR 38), (1, zR 27), (0, zR 60)] [] M
        exact zlaw_coastIfChanged hc hs hL i hi h (ih hi.2)
      · refine z_swIn (pc := 32) (off := 1001) (tgt := 1033) hc (by omega) hsw32 (by rw [hsv32]; rfl) (by decide) dL_law_32 ?_
        show zJW X 1033 [(3, zI i), (2, zR 38), (1, zR 27), (0, zR 60)] [] M
        exact zlaw_needs hc hs hL i hi h (ih hi.2)
      · refine z_swIn (pc := 32) (off := 1044) (tgt := 1076) hc (by omega) hsw32 (by rw [hsv32]; rfl) (by decide) dL_law_32 ?_
        show zJW X 1076 [(3, zI i), (2, zR 38), (1, zR 27), (0, zR 60)] [] M
        exact zlaw_append hc hs hL i hi h (ih hi.2)
      · refine z_swIn (pc := 32) (off := 1067) (tgt := 1099) hc (by omega) hsw32 (by rw [hsv32]; rfl) (by decide) dL_law_32 ?_
        show zJW X 1099 [(3, zI i), (2, zR 38), (1, zR 27), (0, zR 60)] [] M
        exact zlaw_clearText hc hs hL i hi h (ih hi.2)
      · refine z_swIn (pc := 32) (off := 1080) (tgt := 1112) hc (by omega) hsw32 (by rw [hsv32]; rfl) (by decide) dL_law_32 ?_
        show zJW X 1112 [(3, zI i), (2, zR 38), (1, zR 27), (0, zR 60)] [] M
        exact zlaw_errorPosition hc hs hL i hi h (ih hi.2)
      · refine z_swIn (pc := 32) (off := 1093) (tgt := 1125) hc (by omega) hsw32 (by rw [hsv32]; rfl) (by decide) dL_law_32 ?_
        show zJW X 1125 [(3, zI i), (2, zR 38), (1, zR 27), (0, zR 60)] [] M
        exact zlaw_read hc hs hL i hi h (ih hi.2)
      · refine z_swIn (pc := 32) (off := 1106) (tgt := 1138) hc (by omega) hsw32 (by rw [hsv32]; rfl) (by decide) dL_law_32 ?_
        show zJW X 1138 [(3, zI i), (2, zR 38), (1, zR 27), (0, zR 60)] [] M
        exact zlaw_undo hc hs hL i hi h (ih hi.2)
      · refine z_swIn (pc := 32) (off := 1119) (tgt := 1151) hc (by omega) hsw32 (by rw [hsv32]; rfl) (by decide) dL_law_32 ?_
        show zJW X 1151 [(3, zI i), (2, zR 38), (1, zR 27), (0, zR 60)] [] M
        exact zlaw_save hc hs hL i hi h (ih hi.2)
      · refine z_swIn (pc := 32) (off := 1132) (tgt := 1164) hc (by omega) hsw32 (by rw [hsv32]; rfl) (by decide) dL_law_32 ?_
        show zJW X 1164 [(3, zI i), (2, zR 38), (1, zR 27), (0, zR 60)] [] M
        exact zlaw_restore hc hs hL i hi h (ih hi.2)
    · refine z_swOut (pc := 32) (tgt := 1177) hc (by omega) (by omega) (by decide) dL_law_32 ?_
      show zJW X 1177 [(3, zI i), (2, zR 38), (1, zR 27), (0, zR 60)] [] M
      refine z_iinc (pc := 1177) (lv' := [(3, zI (i + 5)), (2, zR 38), (1, zR 27), (0, zR 60)]) hc 0 rfl rfl (by decide) dL_law_1177 ?_
      refine z_goto (pc := 1180) (tgt := 18) hc (by decide) dL_law_1180 ?_
      exact ih hi.2 _ h

theorem zlaw_loop {X : CX} {L : Nat} {xs : Nat → Int32} (hc : zCx KL_law X) (hs : zSc X L xs) (hL : L ≤ 2560) (hend : ∀ (i : Int) (M' : Mem), zJW X 1184 [(3, zI i), (2, zR 38), (1, zR 27), (0, zR 60)] [zI 1] M') : ∀ (n j : Nat), L < 5 * j + n → 5 * j ≤ 5000 + 5 → ∀ M : Mem, SR M → zJW X 18 [(3, zI (5 * ((j : Nat) : Int))), (2, zR 38), (1, zR 27), (0, zR 60)] [] M
  | 0, j, h1, h2, M, h => zlaw_step hc hs hL hend (5 * ((j : Nat) : Int)) (by omega) h (fun hi => absurd hi (by omega))
  | n + 1, j, h1, h2, M, h => zlaw_step hc hs hL hend (5 * ((j : Nat) : Int)) (by omega) h (fun hi M' h' => by
      have g := zlaw_loop hc hs hL hend n (j + 1) (by omega) (by omega) M' h'
      rw [show 5 * (((j + 1 : Nat) : Int)) = 5 * ((j : Nat) : Int) + 5 by omega] at g
      exact g)
